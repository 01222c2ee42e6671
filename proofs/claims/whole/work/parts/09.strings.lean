/-! String's own members over the four constants -/
def d_St_length (i : Nat) (M : Mem) : Res := some ((strsL.getD i 0 : Int), M)
def d_St_charAt (i : Nat) (k : Int) (M : Mem) : Res := chk (0 ≤ w32 k ∧ w32 k < (strsL.getD i 0 : Int)) (some ((((strsB.getD i []).getD (ix k) 0).toInt), M))
def d_St_indexOf (i : Nat) (c : Int) (M : Mem) : Res := some (((((strsB.getD i []).map (fun x => x.toInt)).findIdx? (fun x => x == w32 c)).elim (-1) (fun n => (n : Int))), M)
theorem t_St_length (l : Launch) (G : GX) {lev : Nat} (hlev : 4 ≤ lev) {i : Nat} (hi : i < 4) {M : Mem} {r : Int × Mem} (h : d_St_length i M = some r) : Mt l G y_St_length b_St_length 1 (some .int) lev 1 [.ref (G.2.2.2.1 i)] M r := sorry
theorem t_St_charAt (l : Launch) (G : GX) {lev : Nat} (hlev : 6 ≤ lev) {i : Nat} (hi : i < 4) {a1 : Int} {M : Mem} {r : Int × Mem} (h : d_St_charAt i a1 M = some r) : Mt l G y_St_charAt b_St_charAt 2 (some .char) lev 1 [.ref (G.2.2.2.1 i), vi a1] M r := sorry
theorem t_St_indexOf (l : Launch) (G : GX) {lev : Nat} (hlev : 8 ≤ lev) {i : Nat} (hi : i < 4) {a1 : Int} {M : Mem} {r : Int × Mem} (h : d_St_indexOf i a1 M = some r) : Mt l G y_St_indexOf0 b_St_indexOf0 2 (some .int) lev 1 [.ref (G.2.2.2.1 i), vi a1] M r := sorry

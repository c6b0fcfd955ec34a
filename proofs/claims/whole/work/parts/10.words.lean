/-! WORDS: all that the methods need, out of the tables (written by wip/whole/gen/words.py). -/
def z_tb (j : Nat) : List Cond := match j with
  | 0 => k2_sels lw_privs
  | 1 => tables_1_1
  | 2 => tables_1_2
  | 3 => tables_1_3
  | 4 => tables_1_4
  | 5 => tables_1_5
  | 6 => tables_1_6
  | 7 => tables_1_7
  | 8 => tables_1_8
  | _ => []
theorem z_tb_in : ∀ j, ∀ w ∈ z_tb j, w ∈ lw_tbl
  | 0, w, h => List.mem_append_left _ h
  | 1, w, h => List.mem_append_right _ (List.mem_append_left _ h)
  | 2, w, h => List.mem_append_right _ (List.mem_append_right _ (List.mem_append_left _ h))
  | 3, w, h => List.mem_append_right _ (List.mem_append_right _ (List.mem_append_right _ (List.mem_append_left _ h)))
  | 4, w, h => List.mem_append_right _ (List.mem_append_right _ (List.mem_append_right _ (List.mem_append_right _ (List.mem_append_left _ h))))
  | 5, w, h => List.mem_append_right _ (List.mem_append_right _ (List.mem_append_right _ (List.mem_append_right _ (List.mem_append_right _ (List.mem_append_left _ h)))))
  | 6, w, h => List.mem_append_right _ (List.mem_append_right _ (List.mem_append_right _ (List.mem_append_right _ (List.mem_append_right _ (List.mem_append_right _ (List.mem_append_left _ h))))))
  | 7, w, h => List.mem_append_right _ (List.mem_append_right _ (List.mem_append_right _ (List.mem_append_right _ (List.mem_append_right _ (List.mem_append_right _ (List.mem_append_right _ (List.mem_append_left _ h)))))))
  | 8, w, h => List.mem_append_right _ (List.mem_append_right _ (List.mem_append_right _ (List.mem_append_right _ (List.mem_append_right _ (List.mem_append_right _ (List.mem_append_right _ (List.mem_append_right _ h)))))))
  | n + 9, w, h => absurd h (by show w ∉ []; exact List.not_mem_nil)
/-- word by word: it stands at its place of a table, and is good -/
def z_chk : List Cond → List (Nat × Nat) → Bool
  | [], _ => true
  | w :: r, q :: ps => decide ((z_tb q.1)[q.2]? = some w) && (goodWord w && z_chk r ps)
  | _ :: _, [] => false
theorem z_chk_ok : ∀ (ws : List Cond) (ps : List (Nat × Nat)), z_chk ws ps = true → GoodIn lw_tbl ws
  | [], _, _ => fun w h => absurd h List.not_mem_nil
  | w :: r, q :: ps, h => by
    simp only [z_chk, Bool.and_eq_true, decide_eq_true_eq] at h
    intro u hu
    rcases List.mem_cons.mp hu with rfl | hu
    · exact ⟨z_tb_in q.1 _ (List.mem_of_getElem? h.1), good_of_word h.2.1⟩
    · exact z_chk_ok r ps h.2.2 u hu
  | _ :: _, [], h => by cases h
/-- a method's own words -/
def z_wmj (mi : Nat) : List Cond := .initialized (z_nm mi).cls :: (if z_stc mi then [.static (z_nm mi)] else if z_al mi then [.instanceMethod (z_nm mi)] else [.instanceMethod (z_nm mi), .selects (z_nm mi).cls (z_nm mi) (z_nm mi)])
def z_wmi (mi : Nat) : List Cond := .code (z_nm mi) (z_cc mi) (z_mL mi) (z_rt mi) :: z_wmj mi
/-- a class's words -/
def z_wci (x : Nat) : List Cond := .instantiable (z_RO x) (z_nf x) :: .initialized (z_RO x) :: u_ws (z_RO x) (z_T x) (z_nf x)
def z_wz : List Cond := [.arrayClass .int, .arrayClass .long, .arrayClass .boolean, .instanceMethod objectInit, .code objectInit ⟨#[0xb1]⟩ 1 none, .native arraycopyName, .static arraycopyName, .initialized "java/lang/System"]
theorem z_gl0 : GoodIn lw_tbl z_wl0 := z_chk_ok _ [(1, 61), (1, 76), (1, 82), (2, 208), (2, 209), (2, 210), (2, 211), (2, 212), (2, 213), (2, 214), (4, 185), (4, 189), (4, 193), (4, 214), (4, 215), (4, 216), (4, 220)] (by decide +kernel)
theorem z_gl1 : GoodIn lw_tbl z_wl1 := z_chk_ok _ [(1, 37), (1, 44), (1, 49), (1, 53), (1, 55), (1, 59), (1, 65), (1, 68), (1, 70), (1, 73), (1, 78), (1, 85), (1, 88), (1, 93), (1, 96), (1, 136), (1, 137), (1, 139), (1, 197), (1, 199), (1, 201), (1, 203), (1, 205), (1, 226), (1, 228), (1, 230), (1, 231), (1, 232), (3, 79), (3, 84), (3, 109), (3, 113), (3, 117), (3, 121), (3, 122), (3, 126), (3, 130), (3, 134), (3, 138), (3, 142), (3, 146), (3, 150), (3, 154), (3, 158), (3, 162), (3, 166), (3, 170), (3, 174), (3, 178), (3, 182), (3, 186), (3, 190), (3, 194), (3, 198), (3, 202), (3, 206), (3, 210), (3, 214), (3, 218)] (by decide +kernel)
theorem z_gl2 : GoodIn lw_tbl z_wl2 := z_chk_ok _ [(1, 42), (1, 47), (1, 63), (1, 75), (1, 81), (2, 9), (2, 10), (2, 35), (2, 38), (2, 39), (2, 41), (2, 65), (2, 69), (2, 75), (2, 81), (2, 84), (2, 94), (2, 98), (3, 234), (3, 238), (4, 2), (4, 6), (4, 10), (4, 11), (4, 49), (4, 53), (4, 134), (4, 138), (4, 142), (4, 143), (4, 146), (4, 147), (4, 151), (4, 152)] (by decide +kernel)
theorem z_gl3 : GoodIn lw_tbl z_wl3 := z_chk_ok _ [(1, 41), (1, 48), (1, 62), (1, 77), (1, 83), (2, 63), (2, 68), (2, 73), (2, 80), (2, 89), (2, 93), (2, 97), (2, 233), (2, 234), (2, 236), (5, 157), (5, 161), (5, 176), (5, 177), (5, 178), (5, 181), (5, 184), (5, 185), (5, 186), (5, 189), (5, 190), (5, 191)] (by decide +kernel)
theorem z_gl4 : GoodIn lw_tbl z_wl4 := z_chk_ok _ [(2, 124), (2, 125), (2, 127), (2, 128), (5, 83)] (by decide +kernel)
theorem z_gl5 : GoodIn lw_tbl z_wl5 := z_chk_ok _ [(2, 141), (2, 142), (2, 144), (2, 146), (2, 148), (2, 150), (2, 151), (2, 152), (5, 78), (5, 79), (5, 84)] (by decide +kernel)
theorem z_gl6 : GoodIn lw_tbl z_wl6 := z_chk_ok _ [(1, 35), (1, 36), (1, 39), (1, 46), (1, 51), (1, 54), (1, 57), (1, 60), (1, 66), (1, 69), (1, 71), (1, 74), (1, 80), (1, 86), (1, 89), (1, 91), (1, 94), (3, 83)] (by decide +kernel)
theorem z_gl7 : GoodIn lw_tbl z_wl7 := z_chk_ok _ [(1, 40), (1, 90), (1, 92), (1, 95), (2, 15), (2, 16), (2, 17), (2, 18), (2, 19), (2, 20), (2, 21), (2, 62), (2, 72), (2, 77), (2, 88), (2, 92), (4, 15), (4, 21), (4, 24), (4, 28), (4, 32), (4, 35), (4, 38), (4, 41), (4, 44), (4, 47), (4, 48)] (by decide +kernel)
theorem z_gl8 : GoodIn lw_tbl z_wl8 := z_chk_ok _ [(2, 57), (2, 58), (2, 61), (2, 67), (2, 71), (2, 76), (2, 79), (2, 83), (2, 87), (2, 91), (2, 96), (4, 119), (4, 156), (4, 157)] (by decide +kernel)
theorem z_gl9 : GoodIn lw_tbl z_wl9 := z_chk_ok _ [(1, 45), (2, 37), (2, 64), (2, 85), (2, 167), (2, 168), (2, 169), (2, 170), (2, 172), (2, 173), (2, 174), (2, 175), (2, 176), (2, 177), (2, 179), (2, 181), (5, 13), (5, 14), (5, 15), (5, 24), (5, 28), (5, 29), (5, 30), (5, 34), (5, 35), (5, 39), (5, 40), (5, 48), (5, 64), (5, 65), (5, 69)] (by decide +kernel)
theorem z_gl10 : GoodIn lw_tbl z_wl10 := z_chk_ok _ [(1, 142), (1, 144), (1, 154), (1, 192), (1, 193), (1, 194), (1, 195), (1, 196), (1, 198), (1, 200), (1, 202), (1, 204), (3, 88), (3, 91), (3, 95), (3, 98), (3, 102), (3, 105)] (by decide +kernel)
theorem z_gl11 : GoodIn lw_tbl z_wl11 := z_chk_ok _ [(1, 27), (1, 30), (1, 38), (1, 43), (1, 50), (1, 52), (1, 56), (1, 58), (1, 64), (1, 67), (1, 72), (1, 79), (1, 84), (1, 87), (1, 131), (1, 133), (1, 227), (1, 229), (2, 4), (2, 6), (2, 36), (2, 40), (2, 42), (2, 52), (2, 54), (2, 66), (2, 70), (2, 74), (2, 78), (2, 82), (2, 86), (2, 90), (2, 95), (2, 99), (2, 119), (2, 126), (2, 136), (2, 138), (2, 149), (2, 162), (2, 164), (2, 171), (2, 178), (2, 180), (2, 182), (2, 203), (2, 228), (2, 235), (2, 237), (3, 3), (3, 4), (3, 5), (3, 6), (3, 7), (3, 8), (3, 9), (3, 10), (3, 11), (3, 12), (3, 13), (3, 14), (3, 15), (3, 16), (3, 17), (3, 18), (3, 19), (3, 59), (3, 63), (3, 75), (3, 222), (3, 226), (3, 230), (4, 65), (4, 70), (4, 74), (4, 81), (4, 85), (4, 86), (4, 90), (4, 95), (4, 99), (4, 111), (4, 115), (4, 126), (4, 130), (4, 169), (4, 177), (4, 181), (4, 198), (4, 210), (4, 228), (4, 236), (5, 1), (5, 9), (5, 20), (5, 44), (5, 52), (5, 60), (5, 74), (5, 85), (5, 89), (5, 97), (5, 102), (5, 110), (5, 118), (5, 122), (5, 126), (5, 127), (5, 128), (5, 133), (5, 145), (5, 153), (5, 172)] (by decide +kernel)
theorem z_gl12 : GoodIn lw_tbl z_wl12 := z_chk_ok _ [(5, 201), (5, 202), (5, 203), (5, 204), (5, 205), (5, 206), (5, 207), (5, 208), (5, 209), (5, 210), (5, 211), (5, 212), (5, 213), (5, 214), (5, 215), (5, 216), (5, 217), (5, 218), (5, 219), (5, 220), (5, 221), (5, 222), (5, 223), (5, 224), (5, 225), (5, 226), (5, 227), (5, 228), (5, 229), (5, 230), (5, 231), (5, 232), (5, 233), (5, 234), (5, 235), (5, 236), (5, 237), (5, 238), (5, 239), (6, 0), (6, 1), (6, 2), (6, 3), (6, 4), (6, 5), (6, 6), (6, 7), (6, 8), (6, 9), (6, 10), (6, 11), (6, 12), (6, 13), (6, 14), (6, 15), (6, 16), (6, 17), (6, 18), (6, 19), (6, 20), (6, 21), (6, 22), (6, 23), (6, 24), (6, 25), (6, 26), (6, 27), (6, 28), (6, 29), (6, 30), (6, 31), (6, 32), (6, 33), (6, 184), (6, 188), (6, 200), (6, 204), (6, 207), (6, 210), (6, 214), (6, 215), (6, 219), (6, 223), (6, 227), (6, 231), (6, 235), (6, 238), (7, 2), (7, 6), (7, 10), (7, 14), (7, 15), (7, 19), (7, 23), (7, 24), (7, 25), (7, 26), (7, 30), (7, 34), (7, 35), (7, 36), (7, 37), (7, 38), (7, 39), (7, 40), (7, 41), (7, 42), (7, 43), (7, 44), (7, 45), (7, 46), (7, 47), (7, 48), (7, 49), (7, 50), (7, 51), (7, 52), (7, 53), (7, 57), (7, 61), (7, 65), (7, 69), (7, 72), (7, 76), (7, 80), (7, 84), (7, 88), (7, 91), (7, 95), (7, 99), (7, 103), (7, 107), (7, 111), (7, 114), (7, 118), (7, 122), (7, 126), (7, 130), (7, 134), (7, 138), (7, 142), (7, 146), (7, 150), (7, 154), (7, 158), (7, 161), (7, 164), (7, 165), (7, 166), (7, 169), (7, 173), (7, 177), (7, 193), (7, 197), (7, 205), (7, 209), (7, 216), (7, 220), (7, 225), (7, 233), (7, 237), (8, 9), (8, 17), (8, 21), (8, 25), (8, 29), (8, 33), (8, 37), (8, 41), (8, 42), (8, 43), (8, 47), (8, 63), (8, 67), (8, 71), (8, 75), (8, 95), (8, 115), (8, 119), (8, 127), (8, 128), (8, 136), (8, 156), (8, 160), (8, 161), (8, 162), (8, 163), (8, 176), (8, 188), (8, 192), (8, 196)] (by decide +kernel)
theorem z_gl13 : GoodIn lw_tbl z_wl13 := z_chk_ok _ [(4, 18), (4, 19), (4, 20)] (by decide +kernel)
theorem z_gl16 : GoodIn lw_tbl z_wl16 := z_chk_ok _ [(1, 22), (1, 24), (3, 55), (3, 67), (3, 71), (4, 57), (4, 61), (4, 66), (4, 77), (4, 91), (4, 103), (4, 107), (4, 122), (4, 161), (4, 165), (4, 173), (4, 194), (4, 202), (4, 206), (4, 224), (4, 232), (4, 237), (5, 5), (5, 16), (5, 56), (5, 70), (5, 93), (5, 98), (5, 106), (5, 114), (5, 129), (5, 137), (5, 141), (5, 149), (5, 164), (5, 168), (5, 192), (5, 196), (5, 198), (6, 180), (6, 192), (6, 196), (7, 181), (7, 185), (7, 189), (7, 201), (7, 212), (7, 221), (7, 229), (8, 1), (8, 5), (8, 13), (8, 51), (8, 55), (8, 59), (8, 79), (8, 83), (8, 87), (8, 91), (8, 99), (8, 103), (8, 107), (8, 111), (8, 123), (8, 132), (8, 140), (8, 144), (8, 148), (8, 152), (8, 164), (8, 168), (8, 172), (8, 180), (8, 184)] (by decide +kernel)
theorem z_gl : ∀ o, GoodIn lw_tbl (z_wl o)
  | 0 => z_gl0
  | 1 => z_gl1
  | 2 => z_gl2
  | 3 => z_gl3
  | 4 => z_gl4
  | 5 => z_gl5
  | 6 => z_gl6
  | 7 => z_gl7
  | 8 => z_gl8
  | 9 => z_gl9
  | 10 => z_gl10
  | 11 => z_gl11
  | 12 => z_gl12
  | 13 => z_gl13
  | 14 => fun w h => absurd h (by show w ∉ []; exact List.not_mem_nil)
  | 15 => fun w h => absurd h (by show w ∉ []; exact List.not_mem_nil)
  | 16 => z_gl16
  | n + 17 => fun w h => absurd h (by show w ∉ []; exact List.not_mem_nil)
theorem z_gm0 : GoodIn lw_tbl ((List.range' 0 20).flatMap z_wmj) := z_chk_ok _ [(1, 16), (2, 206), (1, 16), (4, 182), (4, 183), (1, 16), (4, 187), (0, 38), (1, 16), (4, 191), (0, 39), (1, 16), (4, 199), (4, 200), (1, 16), (4, 211), (4, 212), (1, 16), (4, 222), (0, 40), (1, 3), (1, 134), (1, 3), (3, 76), (3, 77), (1, 3), (3, 119), (0, 6), (1, 3), (3, 111), (0, 4), (1, 3), (3, 188), (0, 18), (1, 3), (3, 115), (0, 5), (1, 3), (3, 132), (0, 9), (1, 3), (3, 124), (0, 7), (1, 3), (3, 128), (0, 8), (1, 3), (3, 136), (0, 10), (1, 3), (3, 148), (0, 11), (1, 3), (3, 152), (0, 12), (1, 3), (3, 160), (0, 13)] (by decide +kernel)
theorem z_gm20 : GoodIn lw_tbl ((List.range' 20 20).flatMap z_wmj) := z_chk_ok _ [(1, 3), (3, 204), (0, 21), (1, 3), (3, 208), (0, 22), (1, 3), (3, 212), (0, 23), (1, 3), (3, 216), (0, 24), (1, 3), (3, 184), (0, 17), (1, 3), (3, 168), (0, 14), (1, 3), (3, 172), (0, 15), (1, 3), (3, 176), (0, 16), (1, 3), (3, 220), (0, 25), (1, 3), (3, 192), (0, 19), (1, 3), (3, 200), (0, 20), (1, 9), (2, 7), (1, 9), (3, 231), (3, 232), (1, 9), (3, 236), (0, 27), (1, 9), (4, 7), (4, 8), (1, 9), (4, 131), (4, 132), (1, 9), (4, 136), (0, 32), (1, 9), (4, 140), (0, 33), (1, 10), (4, 45), (1, 9), (4, 149), (0, 34)] (by decide +kernel)
theorem z_gm40 : GoodIn lw_tbl ((List.range' 40 20).flatMap z_wmj) := z_chk_ok _ [(1, 9), (4, 229), (4, 230), (1, 17), (2, 231), (1, 17), (5, 154), (5, 155), (1, 17), (5, 159), (0, 53), (1, 17), (5, 162), (1, 17), (5, 173), (5, 174), (1, 17), (5, 179), (1, 17), (5, 182), (1, 17), (5, 187), (1, 13), (2, 122), (1, 13), (5, 90), (5, 91), (1, 13), (5, 146), (5, 147), (1, 13), (5, 80), (5, 81), (1, 14), (2, 139), (1, 14), (5, 75), (5, 76), (1, 14), (5, 134), (5, 135), (1, 2), (1, 33), (1, 2), (3, 80), (3, 81), (1, 2), (4, 82), (4, 83), (1, 2), (4, 71), (4, 72)] (by decide +kernel)
theorem z_gm60 : GoodIn lw_tbl ((List.range' 60 20).flatMap z_wmj) := z_chk_ok _ [(1, 2), (3, 163), (3, 164), (1, 2), (4, 50), (4, 51), (1, 2), (4, 217), (4, 218), (1, 2), (4, 87), (4, 88), (1, 2), (3, 139), (3, 140), (1, 2), (3, 155), (3, 156), (1, 2), (3, 195), (3, 196), (1, 10), (2, 13), (1, 10), (4, 12), (4, 13), (1, 10), (4, 22), (1, 10), (4, 26), (0, 28), (1, 10), (4, 30), (0, 29), (1, 10), (4, 45), (1, 11), (2, 55), (1, 11), (3, 227), (3, 228), (1, 11), (4, 116), (4, 117), (1, 11), (3, 239), (4, 0), (1, 11), (4, 96), (4, 97), (1, 11), (4, 100), (4, 101), (1, 11), (4, 3), (4, 4)] (by decide +kernel)
theorem z_gm80 : GoodIn lw_tbl ((List.range' 80 20).flatMap z_wmj) := z_chk_ok _ [(1, 11), (4, 54), (4, 55), (1, 11), (4, 153), (4, 154), (1, 11), (4, 159), (0, 35), (1, 15), (2, 165), (1, 15), (5, 10), (5, 11), (1, 15), (5, 21), (5, 22), (1, 15), (5, 26), (0, 42), (1, 15), (5, 32), (0, 43), (1, 15), (5, 37), (0, 44), (1, 15), (5, 42), (0, 45), (1, 15), (5, 50), (0, 46), (1, 15), (5, 45), (5, 46), (1, 15), (5, 53), (5, 54), (1, 15), (5, 61), (5, 62), (1, 15), (5, 67), (0, 47), (1, 4), (1, 140), (1, 4), (4, 75), (1, 4), (3, 85), (3, 86), (1, 4), (3, 92), (3, 93), (1, 4), (3, 100), (0, 2)] (by decide +kernel)
theorem z_gm100 : GoodIn lw_tbl ((List.range' 100 20).flatMap z_wmj) := z_chk_ok _ [(1, 4), (3, 107), (0, 3), (1, 4), (3, 96), (1, 4), (3, 103), (1, 4), (3, 143), (3, 144), (1, 4), (3, 179), (3, 180), (1, 1), (1, 25), (1, 1), (3, 56), (3, 57), (1, 1), (3, 65), (0, 1), (1, 1), (3, 68), (3, 69), (1, 1), (3, 72), (3, 73), (1, 1), (3, 224), (0, 26), (1, 1), (4, 58), (4, 59), (1, 1), (4, 62), (4, 63), (1, 1), (4, 67), (4, 68), (1, 1), (4, 78), (4, 79), (1, 1), (4, 92), (4, 93), (1, 1), (4, 104), (4, 105), (1, 1), (4, 108), (4, 109), (1, 1), (4, 123), (4, 124), (1, 1), (4, 162), (4, 163)] (by decide +kernel)
theorem z_gm120 : GoodIn lw_tbl ((List.range' 120 20).flatMap z_wmj) := z_chk_ok _ [(1, 1), (4, 166), (4, 167), (1, 1), (4, 128), (0, 31), (1, 1), (4, 174), (4, 175), (1, 1), (4, 195), (4, 196), (1, 1), (4, 203), (4, 204), (1, 1), (4, 207), (4, 208), (1, 1), (4, 225), (4, 226), (1, 1), (4, 233), (4, 234), (1, 1), (4, 238), (4, 239), (1, 1), (5, 3), (0, 41), (1, 1), (5, 6), (5, 7), (1, 1), (5, 17), (5, 18), (1, 1), (5, 57), (5, 58), (1, 1), (5, 71), (5, 72), (1, 1), (5, 87), (0, 48), (1, 1), (5, 94), (5, 95), (1, 1), (5, 99), (5, 100), (1, 1), (5, 104), (0, 49), (1, 1), (5, 107), (5, 108), (1, 1), (5, 115), (5, 116)] (by decide +kernel)
theorem z_gm140 : GoodIn lw_tbl ((List.range' 140 20).flatMap z_wmj) := z_chk_ok _ [(1, 1), (5, 112), (0, 50), (1, 1), (5, 120), (0, 51), (1, 1), (5, 124), (0, 52), (1, 1), (5, 130), (5, 131), (1, 1), (5, 138), (5, 139), (1, 1), (5, 142), (5, 143), (1, 1), (5, 150), (5, 151), (1, 1), (5, 165), (5, 166), (1, 1), (5, 169), (5, 170), (1, 1), (5, 193), (5, 194), (1, 1), (3, 61), (0, 0), (1, 1), (4, 171), (0, 36), (1, 1), (4, 113), (0, 30), (1, 1), (4, 179), (0, 37), (1, 18), (5, 199), (1, 18), (6, 236), (1, 18), (6, 190), (0, 55), (1, 18), (6, 181), (6, 182), (1, 18), (6, 193), (6, 194), (1, 18), (6, 225), (0, 60)] (by decide +kernel)
theorem z_gm160 : GoodIn lw_tbl ((List.range' 160 20).flatMap z_wmj) := z_chk_ok _ [(1, 18), (6, 205), (1, 18), (6, 208), (1, 18), (6, 221), (0, 59), (1, 18), (6, 202), (0, 56), (1, 18), (7, 4), (0, 64), (1, 18), (6, 229), (0, 61), (1, 18), (7, 8), (0, 65), (1, 18), (7, 32), (0, 70), (1, 18), (7, 55), (0, 71), (1, 18), (6, 233), (0, 62), (1, 18), (7, 101), (0, 81), (1, 18), (7, 112), (1, 18), (7, 109), (0, 83), (1, 18), (7, 93), (0, 79), (1, 18), (7, 82), (0, 77), (1, 18), (7, 97), (0, 80), (1, 18), (7, 89), (1, 18), (7, 86), (0, 78), (1, 18), (7, 105), (0, 82), (1, 18), (7, 78), (0, 76)] (by decide +kernel)
theorem z_gm180 : GoodIn lw_tbl ((List.range' 180 20).flatMap z_wmj) := z_chk_ok _ [(1, 18), (7, 21), (0, 68), (1, 18), (6, 217), (0, 58), (1, 18), (7, 70), (1, 18), (7, 17), (0, 67), (1, 18), (6, 212), (0, 57), (1, 18), (7, 28), (0, 69), (1, 18), (7, 63), (0, 73), (1, 18), (7, 59), (0, 72), (1, 18), (7, 67), (0, 74), (1, 18), (7, 74), (0, 75), (1, 18), (7, 12), (0, 66), (1, 18), (7, 0), (0, 63), (1, 18), (6, 197), (6, 198), (1, 18), (7, 182), (7, 183), (1, 18), (6, 186), (0, 54), (1, 18), (7, 186), (7, 187), (1, 18), (7, 199), (0, 99), (1, 18), (7, 116), (0, 84), (1, 18), (7, 195), (0, 98), (1, 18), (8, 138), (0, 122)] (by decide +kernel)
theorem z_gm200 : GoodIn lw_tbl ((List.range' 200 20).flatMap z_wmj) := z_chk_ok _ [(1, 18), (7, 190), (7, 191), (1, 18), (7, 162), (1, 18), (7, 167), (1, 18), (7, 159), (1, 18), (7, 156), (0, 94), (1, 18), (7, 144), (0, 91), (1, 18), (7, 210), (1, 18), (7, 136), (0, 89), (1, 18), (7, 132), (0, 88), (1, 18), (7, 152), (0, 93), (1, 18), (7, 124), (0, 86), (1, 18), (7, 128), (0, 87), (1, 18), (7, 179), (0, 97), (1, 18), (7, 235), (0, 103), (1, 18), (7, 239), (0, 104), (1, 18), (8, 11), (0, 105), (1, 18), (7, 148), (0, 92), (1, 18), (7, 140), (0, 90), (1, 18), (7, 175), (0, 96), (1, 18), (7, 171), (0, 95)] (by decide +kernel)
theorem z_gm220 : GoodIn lw_tbl ((List.range' 220 20).flatMap z_wmj) := z_chk_ok _ [(1, 18), (7, 120), (0, 85), (1, 18), (8, 35), (0, 110), (1, 18), (8, 49), (0, 113), (1, 18), (8, 31), (0, 109), (1, 18), (8, 39), (0, 111), (1, 18), (8, 45), (0, 112), (1, 18), (8, 27), (0, 108), (1, 18), (7, 227), (0, 102), (1, 18), (7, 218), (0, 101), (1, 18), (7, 207), (0, 100), (1, 18), (7, 202), (7, 203), (1, 18), (7, 213), (7, 214), (1, 18), (7, 222), (7, 223), (1, 18), (7, 230), (7, 231), (1, 18), (8, 2), (8, 3), (1, 18), (8, 19), (0, 106), (1, 18), (8, 23), (0, 107), (1, 18), (8, 6), (8, 7), (1, 18), (8, 14), (8, 15), (1, 18), (8, 52), (8, 53)] (by decide +kernel)
theorem z_gm240 : GoodIn lw_tbl ((List.range' 240 20).flatMap z_wmj) := z_chk_ok _ [(1, 18), (8, 56), (8, 57), (1, 18), (8, 73), (0, 116), (1, 18), (8, 77), (0, 117), (1, 18), (8, 69), (0, 115), (1, 18), (8, 65), (0, 114), (1, 18), (8, 60), (8, 61), (1, 18), (8, 80), (8, 81), (1, 18), (8, 84), (8, 85), (1, 18), (8, 88), (8, 89), (1, 18), (8, 97), (0, 118), (1, 18), (8, 92), (8, 93), (1, 18), (8, 100), (8, 101), (1, 18), (8, 104), (8, 105), (1, 18), (8, 108), (8, 109), (1, 18), (8, 121), (0, 120), (1, 18), (8, 117), (0, 119), (1, 18), (8, 112), (8, 113), (1, 18), (8, 130), (0, 121), (1, 18), (8, 124), (8, 125), (1, 18), (8, 133), (8, 134)] (by decide +kernel)
theorem z_gm260 : GoodIn lw_tbl ((List.range' 260 20).flatMap z_wmj) := z_chk_ok _ [(1, 18), (8, 141), (8, 142), (1, 18), (8, 145), (8, 146), (1, 18), (8, 149), (8, 150), (1, 18), (8, 158), (0, 123), (1, 18), (8, 153), (8, 154), (1, 18), (8, 165), (8, 166), (1, 18), (8, 169), (8, 170), (1, 18), (8, 178), (0, 124), (1, 18), (8, 173), (8, 174), (1, 18), (8, 181), (8, 182), (1, 18), (8, 194), (0, 126), (1, 18), (8, 198), (0, 127), (1, 18), (8, 190), (0, 125), (1, 18), (8, 185), (8, 186), (1, 20), (4, 16), (1, 19), (4, 33), (1, 19), (4, 36), (1, 19), (4, 144), (1, 19), (4, 42), (1, 19), (3, 89)] (by decide +kernel)
theorem z_gm280 : GoodIn lw_tbl ((List.range' 280 2).flatMap z_wmj) := z_chk_ok _ [(1, 19), (4, 39), (1, 12), (2, 59)] (by decide +kernel)
theorem z_gmj : ∀ mi, mi < 282 → GoodIn lw_tbl (z_wmj mi) := by
  intro mi h w hw
  by_cases h0 : mi < 20
  · exact z_gm0 w (List.mem_flatMap.mpr ⟨mi, List.mem_range'_1.mpr ⟨by omega, by omega⟩, hw⟩)
  by_cases h20 : mi < 40
  · exact z_gm20 w (List.mem_flatMap.mpr ⟨mi, List.mem_range'_1.mpr ⟨by omega, by omega⟩, hw⟩)
  by_cases h40 : mi < 60
  · exact z_gm40 w (List.mem_flatMap.mpr ⟨mi, List.mem_range'_1.mpr ⟨by omega, by omega⟩, hw⟩)
  by_cases h60 : mi < 80
  · exact z_gm60 w (List.mem_flatMap.mpr ⟨mi, List.mem_range'_1.mpr ⟨by omega, by omega⟩, hw⟩)
  by_cases h80 : mi < 100
  · exact z_gm80 w (List.mem_flatMap.mpr ⟨mi, List.mem_range'_1.mpr ⟨by omega, by omega⟩, hw⟩)
  by_cases h100 : mi < 120
  · exact z_gm100 w (List.mem_flatMap.mpr ⟨mi, List.mem_range'_1.mpr ⟨by omega, by omega⟩, hw⟩)
  by_cases h120 : mi < 140
  · exact z_gm120 w (List.mem_flatMap.mpr ⟨mi, List.mem_range'_1.mpr ⟨by omega, by omega⟩, hw⟩)
  by_cases h140 : mi < 160
  · exact z_gm140 w (List.mem_flatMap.mpr ⟨mi, List.mem_range'_1.mpr ⟨by omega, by omega⟩, hw⟩)
  by_cases h160 : mi < 180
  · exact z_gm160 w (List.mem_flatMap.mpr ⟨mi, List.mem_range'_1.mpr ⟨by omega, by omega⟩, hw⟩)
  by_cases h180 : mi < 200
  · exact z_gm180 w (List.mem_flatMap.mpr ⟨mi, List.mem_range'_1.mpr ⟨by omega, by omega⟩, hw⟩)
  by_cases h200 : mi < 220
  · exact z_gm200 w (List.mem_flatMap.mpr ⟨mi, List.mem_range'_1.mpr ⟨by omega, by omega⟩, hw⟩)
  by_cases h220 : mi < 240
  · exact z_gm220 w (List.mem_flatMap.mpr ⟨mi, List.mem_range'_1.mpr ⟨by omega, by omega⟩, hw⟩)
  by_cases h240 : mi < 260
  · exact z_gm240 w (List.mem_flatMap.mpr ⟨mi, List.mem_range'_1.mpr ⟨by omega, by omega⟩, hw⟩)
  by_cases h260 : mi < 280
  · exact z_gm260 w (List.mem_flatMap.mpr ⟨mi, List.mem_range'_1.mpr ⟨by omega, by omega⟩, hw⟩)
  by_cases h280 : mi < 282
  · exact z_gm280 w (List.mem_flatMap.mpr ⟨mi, List.mem_range'_1.mpr ⟨by omega, by omega⟩, hw⟩)
  omega
set_option maxRecDepth 20000 in
theorem z_k0 : (z_tb 2)[207]? = some (.code (z_nm 0) (z_cc 0) (z_mL 0) (z_rt 0)) := rfl
set_option maxRecDepth 20000 in
theorem z_k1 : (z_tb 4)[184]? = some (.code (z_nm 1) (z_cc 1) (z_mL 1) (z_rt 1)) := rfl
set_option maxRecDepth 20000 in
theorem z_k2 : (z_tb 4)[188]? = some (.code (z_nm 2) (z_cc 2) (z_mL 2) (z_rt 2)) := rfl
set_option maxRecDepth 20000 in
theorem z_k3 : (z_tb 4)[192]? = some (.code (z_nm 3) (z_cc 3) (z_mL 3) (z_rt 3)) := rfl
set_option maxRecDepth 20000 in
theorem z_k4 : (z_tb 4)[201]? = some (.code (z_nm 4) (z_cc 4) (z_mL 4) (z_rt 4)) := rfl
set_option maxRecDepth 20000 in
theorem z_k5 : (z_tb 4)[213]? = some (.code (z_nm 5) (z_cc 5) (z_mL 5) (z_rt 5)) := rfl
set_option maxRecDepth 20000 in
theorem z_k6 : (z_tb 4)[223]? = some (.code (z_nm 6) (z_cc 6) (z_mL 6) (z_rt 6)) := rfl
set_option maxRecDepth 20000 in
theorem z_k7 : (z_tb 1)[135]? = some (.code (z_nm 7) (z_cc 7) (z_mL 7) (z_rt 7)) := rfl
set_option maxRecDepth 20000 in
theorem z_k8 : (z_tb 3)[78]? = some (.code (z_nm 8) (z_cc 8) (z_mL 8) (z_rt 8)) := rfl
set_option maxRecDepth 20000 in
theorem z_k9 : (z_tb 3)[120]? = some (.code (z_nm 9) (z_cc 9) (z_mL 9) (z_rt 9)) := rfl
set_option maxRecDepth 20000 in
theorem z_k10 : (z_tb 3)[112]? = some (.code (z_nm 10) (z_cc 10) (z_mL 10) (z_rt 10)) := rfl
set_option maxRecDepth 20000 in
theorem z_k11 : (z_tb 3)[189]? = some (.code (z_nm 11) (z_cc 11) (z_mL 11) (z_rt 11)) := rfl
set_option maxRecDepth 20000 in
theorem z_k12 : (z_tb 3)[116]? = some (.code (z_nm 12) (z_cc 12) (z_mL 12) (z_rt 12)) := rfl
set_option maxRecDepth 20000 in
theorem z_k13 : (z_tb 3)[133]? = some (.code (z_nm 13) (z_cc 13) (z_mL 13) (z_rt 13)) := rfl
set_option maxRecDepth 20000 in
theorem z_k14 : (z_tb 3)[125]? = some (.code (z_nm 14) (z_cc 14) (z_mL 14) (z_rt 14)) := rfl
set_option maxRecDepth 20000 in
theorem z_k15 : (z_tb 3)[129]? = some (.code (z_nm 15) (z_cc 15) (z_mL 15) (z_rt 15)) := rfl
set_option maxRecDepth 20000 in
theorem z_k16 : (z_tb 3)[137]? = some (.code (z_nm 16) (z_cc 16) (z_mL 16) (z_rt 16)) := rfl
set_option maxRecDepth 20000 in
theorem z_k17 : (z_tb 3)[149]? = some (.code (z_nm 17) (z_cc 17) (z_mL 17) (z_rt 17)) := rfl
set_option maxRecDepth 20000 in
theorem z_k18 : (z_tb 3)[153]? = some (.code (z_nm 18) (z_cc 18) (z_mL 18) (z_rt 18)) := rfl
set_option maxRecDepth 20000 in
theorem z_k19 : (z_tb 3)[161]? = some (.code (z_nm 19) (z_cc 19) (z_mL 19) (z_rt 19)) := rfl
set_option maxRecDepth 20000 in
theorem z_k20 : (z_tb 3)[205]? = some (.code (z_nm 20) (z_cc 20) (z_mL 20) (z_rt 20)) := rfl
set_option maxRecDepth 20000 in
theorem z_k21 : (z_tb 3)[209]? = some (.code (z_nm 21) (z_cc 21) (z_mL 21) (z_rt 21)) := rfl
set_option maxRecDepth 20000 in
theorem z_k22 : (z_tb 3)[213]? = some (.code (z_nm 22) (z_cc 22) (z_mL 22) (z_rt 22)) := rfl
set_option maxRecDepth 20000 in
theorem z_k23 : (z_tb 3)[217]? = some (.code (z_nm 23) (z_cc 23) (z_mL 23) (z_rt 23)) := rfl
set_option maxRecDepth 20000 in
theorem z_k24 : (z_tb 3)[185]? = some (.code (z_nm 24) (z_cc 24) (z_mL 24) (z_rt 24)) := rfl
set_option maxRecDepth 20000 in
theorem z_k25 : (z_tb 3)[169]? = some (.code (z_nm 25) (z_cc 25) (z_mL 25) (z_rt 25)) := rfl
set_option maxRecDepth 20000 in
theorem z_k26 : (z_tb 3)[173]? = some (.code (z_nm 26) (z_cc 26) (z_mL 26) (z_rt 26)) := rfl
set_option maxRecDepth 20000 in
theorem z_k27 : (z_tb 3)[177]? = some (.code (z_nm 27) (z_cc 27) (z_mL 27) (z_rt 27)) := rfl
set_option maxRecDepth 20000 in
theorem z_k28 : (z_tb 3)[221]? = some (.code (z_nm 28) (z_cc 28) (z_mL 28) (z_rt 28)) := rfl
set_option maxRecDepth 20000 in
theorem z_k29 : (z_tb 3)[193]? = some (.code (z_nm 29) (z_cc 29) (z_mL 29) (z_rt 29)) := rfl
set_option maxRecDepth 20000 in
theorem z_k30 : (z_tb 3)[201]? = some (.code (z_nm 30) (z_cc 30) (z_mL 30) (z_rt 30)) := rfl
set_option maxRecDepth 20000 in
theorem z_k31 : (z_tb 2)[8]? = some (.code (z_nm 31) (z_cc 31) (z_mL 31) (z_rt 31)) := rfl
set_option maxRecDepth 20000 in
theorem z_k32 : (z_tb 3)[233]? = some (.code (z_nm 32) (z_cc 32) (z_mL 32) (z_rt 32)) := rfl
set_option maxRecDepth 20000 in
theorem z_k33 : (z_tb 3)[237]? = some (.code (z_nm 33) (z_cc 33) (z_mL 33) (z_rt 33)) := rfl
set_option maxRecDepth 20000 in
theorem z_k34 : (z_tb 4)[9]? = some (.code (z_nm 34) (z_cc 34) (z_mL 34) (z_rt 34)) := rfl
set_option maxRecDepth 20000 in
theorem z_k35 : (z_tb 4)[133]? = some (.code (z_nm 35) (z_cc 35) (z_mL 35) (z_rt 35)) := rfl
set_option maxRecDepth 20000 in
theorem z_k36 : (z_tb 4)[137]? = some (.code (z_nm 36) (z_cc 36) (z_mL 36) (z_rt 36)) := rfl
set_option maxRecDepth 20000 in
theorem z_k37 : (z_tb 4)[141]? = some (.code (z_nm 37) (z_cc 37) (z_mL 37) (z_rt 37)) := rfl
set_option maxRecDepth 20000 in
theorem z_k38 : (z_tb 4)[46]? = some (.code (z_nm 38) (z_cc 38) (z_mL 38) (z_rt 38)) := rfl
set_option maxRecDepth 20000 in
theorem z_k39 : (z_tb 4)[150]? = some (.code (z_nm 39) (z_cc 39) (z_mL 39) (z_rt 39)) := rfl
set_option maxRecDepth 20000 in
theorem z_k40 : (z_tb 4)[231]? = some (.code (z_nm 40) (z_cc 40) (z_mL 40) (z_rt 40)) := rfl
set_option maxRecDepth 20000 in
theorem z_k41 : (z_tb 2)[232]? = some (.code (z_nm 41) (z_cc 41) (z_mL 41) (z_rt 41)) := rfl
set_option maxRecDepth 20000 in
theorem z_k42 : (z_tb 5)[156]? = some (.code (z_nm 42) (z_cc 42) (z_mL 42) (z_rt 42)) := rfl
set_option maxRecDepth 20000 in
theorem z_k43 : (z_tb 5)[160]? = some (.code (z_nm 43) (z_cc 43) (z_mL 43) (z_rt 43)) := rfl
set_option maxRecDepth 20000 in
theorem z_k44 : (z_tb 5)[163]? = some (.code (z_nm 44) (z_cc 44) (z_mL 44) (z_rt 44)) := rfl
set_option maxRecDepth 20000 in
theorem z_k45 : (z_tb 5)[175]? = some (.code (z_nm 45) (z_cc 45) (z_mL 45) (z_rt 45)) := rfl
set_option maxRecDepth 20000 in
theorem z_k46 : (z_tb 5)[180]? = some (.code (z_nm 46) (z_cc 46) (z_mL 46) (z_rt 46)) := rfl
set_option maxRecDepth 20000 in
theorem z_k47 : (z_tb 5)[183]? = some (.code (z_nm 47) (z_cc 47) (z_mL 47) (z_rt 47)) := rfl
set_option maxRecDepth 20000 in
theorem z_k48 : (z_tb 5)[188]? = some (.code (z_nm 48) (z_cc 48) (z_mL 48) (z_rt 48)) := rfl
set_option maxRecDepth 20000 in
theorem z_k49 : (z_tb 2)[123]? = some (.code (z_nm 49) (z_cc 49) (z_mL 49) (z_rt 49)) := rfl
set_option maxRecDepth 20000 in
theorem z_k50 : (z_tb 5)[92]? = some (.code (z_nm 50) (z_cc 50) (z_mL 50) (z_rt 50)) := rfl
set_option maxRecDepth 20000 in
theorem z_k51 : (z_tb 5)[148]? = some (.code (z_nm 51) (z_cc 51) (z_mL 51) (z_rt 51)) := rfl
set_option maxRecDepth 20000 in
theorem z_k52 : (z_tb 5)[82]? = some (.code (z_nm 52) (z_cc 52) (z_mL 52) (z_rt 52)) := rfl
set_option maxRecDepth 20000 in
theorem z_k53 : (z_tb 2)[140]? = some (.code (z_nm 53) (z_cc 53) (z_mL 53) (z_rt 53)) := rfl
set_option maxRecDepth 20000 in
theorem z_k54 : (z_tb 5)[77]? = some (.code (z_nm 54) (z_cc 54) (z_mL 54) (z_rt 54)) := rfl
set_option maxRecDepth 20000 in
theorem z_k55 : (z_tb 5)[136]? = some (.code (z_nm 55) (z_cc 55) (z_mL 55) (z_rt 55)) := rfl
set_option maxRecDepth 20000 in
theorem z_k56 : (z_tb 1)[34]? = some (.code (z_nm 56) (z_cc 56) (z_mL 56) (z_rt 56)) := rfl
set_option maxRecDepth 20000 in
theorem z_k57 : (z_tb 3)[82]? = some (.code (z_nm 57) (z_cc 57) (z_mL 57) (z_rt 57)) := rfl
set_option maxRecDepth 20000 in
theorem z_k58 : (z_tb 4)[84]? = some (.code (z_nm 58) (z_cc 58) (z_mL 58) (z_rt 58)) := rfl
set_option maxRecDepth 20000 in
theorem z_k59 : (z_tb 4)[73]? = some (.code (z_nm 59) (z_cc 59) (z_mL 59) (z_rt 59)) := rfl
set_option maxRecDepth 20000 in
theorem z_k60 : (z_tb 3)[165]? = some (.code (z_nm 60) (z_cc 60) (z_mL 60) (z_rt 60)) := rfl
set_option maxRecDepth 20000 in
theorem z_k61 : (z_tb 4)[52]? = some (.code (z_nm 61) (z_cc 61) (z_mL 61) (z_rt 61)) := rfl
set_option maxRecDepth 20000 in
theorem z_k62 : (z_tb 4)[219]? = some (.code (z_nm 62) (z_cc 62) (z_mL 62) (z_rt 62)) := rfl
set_option maxRecDepth 20000 in
theorem z_k63 : (z_tb 4)[89]? = some (.code (z_nm 63) (z_cc 63) (z_mL 63) (z_rt 63)) := rfl
set_option maxRecDepth 20000 in
theorem z_k64 : (z_tb 3)[141]? = some (.code (z_nm 64) (z_cc 64) (z_mL 64) (z_rt 64)) := rfl
set_option maxRecDepth 20000 in
theorem z_k65 : (z_tb 3)[157]? = some (.code (z_nm 65) (z_cc 65) (z_mL 65) (z_rt 65)) := rfl
set_option maxRecDepth 20000 in
theorem z_k66 : (z_tb 3)[197]? = some (.code (z_nm 66) (z_cc 66) (z_mL 66) (z_rt 66)) := rfl
set_option maxRecDepth 20000 in
theorem z_k67 : (z_tb 2)[14]? = some (.code (z_nm 67) (z_cc 67) (z_mL 67) (z_rt 67)) := rfl
set_option maxRecDepth 20000 in
theorem z_k68 : (z_tb 4)[14]? = some (.code (z_nm 68) (z_cc 68) (z_mL 68) (z_rt 68)) := rfl
set_option maxRecDepth 20000 in
theorem z_k69 : (z_tb 4)[23]? = some (.code (z_nm 69) (z_cc 69) (z_mL 69) (z_rt 69)) := rfl
set_option maxRecDepth 20000 in
theorem z_k70 : (z_tb 4)[27]? = some (.code (z_nm 70) (z_cc 70) (z_mL 70) (z_rt 70)) := rfl
set_option maxRecDepth 20000 in
theorem z_k71 : (z_tb 4)[31]? = some (.code (z_nm 71) (z_cc 71) (z_mL 71) (z_rt 71)) := rfl
set_option maxRecDepth 20000 in
theorem z_k72 : (z_tb 4)[46]? = some (.code (z_nm 72) (z_cc 72) (z_mL 72) (z_rt 72)) := rfl
set_option maxRecDepth 20000 in
theorem z_k73 : (z_tb 2)[56]? = some (.code (z_nm 73) (z_cc 73) (z_mL 73) (z_rt 73)) := rfl
set_option maxRecDepth 20000 in
theorem z_k74 : (z_tb 3)[229]? = some (.code (z_nm 74) (z_cc 74) (z_mL 74) (z_rt 74)) := rfl
set_option maxRecDepth 20000 in
theorem z_k75 : (z_tb 4)[118]? = some (.code (z_nm 75) (z_cc 75) (z_mL 75) (z_rt 75)) := rfl
set_option maxRecDepth 20000 in
theorem z_k76 : (z_tb 4)[1]? = some (.code (z_nm 76) (z_cc 76) (z_mL 76) (z_rt 76)) := rfl
set_option maxRecDepth 20000 in
theorem z_k77 : (z_tb 4)[98]? = some (.code (z_nm 77) (z_cc 77) (z_mL 77) (z_rt 77)) := rfl
set_option maxRecDepth 20000 in
theorem z_k78 : (z_tb 4)[102]? = some (.code (z_nm 78) (z_cc 78) (z_mL 78) (z_rt 78)) := rfl
set_option maxRecDepth 20000 in
theorem z_k79 : (z_tb 4)[5]? = some (.code (z_nm 79) (z_cc 79) (z_mL 79) (z_rt 79)) := rfl
set_option maxRecDepth 20000 in
theorem z_k80 : (z_tb 4)[56]? = some (.code (z_nm 80) (z_cc 80) (z_mL 80) (z_rt 80)) := rfl
set_option maxRecDepth 20000 in
theorem z_k81 : (z_tb 4)[155]? = some (.code (z_nm 81) (z_cc 81) (z_mL 81) (z_rt 81)) := rfl
set_option maxRecDepth 20000 in
theorem z_k82 : (z_tb 4)[160]? = some (.code (z_nm 82) (z_cc 82) (z_mL 82) (z_rt 82)) := rfl
set_option maxRecDepth 20000 in
theorem z_k83 : (z_tb 2)[166]? = some (.code (z_nm 83) (z_cc 83) (z_mL 83) (z_rt 83)) := rfl
set_option maxRecDepth 20000 in
theorem z_k84 : (z_tb 5)[12]? = some (.code (z_nm 84) (z_cc 84) (z_mL 84) (z_rt 84)) := rfl
set_option maxRecDepth 20000 in
theorem z_k85 : (z_tb 5)[23]? = some (.code (z_nm 85) (z_cc 85) (z_mL 85) (z_rt 85)) := rfl
set_option maxRecDepth 20000 in
theorem z_k86 : (z_tb 5)[27]? = some (.code (z_nm 86) (z_cc 86) (z_mL 86) (z_rt 86)) := rfl
set_option maxRecDepth 20000 in
theorem z_k87 : (z_tb 5)[33]? = some (.code (z_nm 87) (z_cc 87) (z_mL 87) (z_rt 87)) := rfl
set_option maxRecDepth 20000 in
theorem z_k88 : (z_tb 5)[38]? = some (.code (z_nm 88) (z_cc 88) (z_mL 88) (z_rt 88)) := rfl
set_option maxRecDepth 20000 in
theorem z_k89 : (z_tb 5)[43]? = some (.code (z_nm 89) (z_cc 89) (z_mL 89) (z_rt 89)) := rfl
set_option maxRecDepth 20000 in
theorem z_k90 : (z_tb 5)[51]? = some (.code (z_nm 90) (z_cc 90) (z_mL 90) (z_rt 90)) := rfl
set_option maxRecDepth 20000 in
theorem z_k91 : (z_tb 5)[47]? = some (.code (z_nm 91) (z_cc 91) (z_mL 91) (z_rt 91)) := rfl
set_option maxRecDepth 20000 in
theorem z_k92 : (z_tb 5)[55]? = some (.code (z_nm 92) (z_cc 92) (z_mL 92) (z_rt 92)) := rfl
set_option maxRecDepth 20000 in
theorem z_k93 : (z_tb 5)[63]? = some (.code (z_nm 93) (z_cc 93) (z_mL 93) (z_rt 93)) := rfl
set_option maxRecDepth 20000 in
theorem z_k94 : (z_tb 5)[68]? = some (.code (z_nm 94) (z_cc 94) (z_mL 94) (z_rt 94)) := rfl
set_option maxRecDepth 20000 in
theorem z_k95 : (z_tb 1)[141]? = some (.code (z_nm 95) (z_cc 95) (z_mL 95) (z_rt 95)) := rfl
set_option maxRecDepth 20000 in
theorem z_k96 : (z_tb 4)[76]? = some (.code (z_nm 96) (z_cc 96) (z_mL 96) (z_rt 96)) := rfl
set_option maxRecDepth 20000 in
theorem z_k97 : (z_tb 3)[87]? = some (.code (z_nm 97) (z_cc 97) (z_mL 97) (z_rt 97)) := rfl
set_option maxRecDepth 20000 in
theorem z_k98 : (z_tb 3)[94]? = some (.code (z_nm 98) (z_cc 98) (z_mL 98) (z_rt 98)) := rfl
set_option maxRecDepth 20000 in
theorem z_k99 : (z_tb 3)[101]? = some (.code (z_nm 99) (z_cc 99) (z_mL 99) (z_rt 99)) := rfl
set_option maxRecDepth 20000 in
theorem z_k100 : (z_tb 3)[108]? = some (.code (z_nm 100) (z_cc 100) (z_mL 100) (z_rt 100)) := rfl
set_option maxRecDepth 20000 in
theorem z_k101 : (z_tb 3)[97]? = some (.code (z_nm 101) (z_cc 101) (z_mL 101) (z_rt 101)) := rfl
set_option maxRecDepth 20000 in
theorem z_k102 : (z_tb 3)[104]? = some (.code (z_nm 102) (z_cc 102) (z_mL 102) (z_rt 102)) := rfl
set_option maxRecDepth 20000 in
theorem z_k103 : (z_tb 3)[145]? = some (.code (z_nm 103) (z_cc 103) (z_mL 103) (z_rt 103)) := rfl
set_option maxRecDepth 20000 in
theorem z_k104 : (z_tb 3)[181]? = some (.code (z_nm 104) (z_cc 104) (z_mL 104) (z_rt 104)) := rfl
set_option maxRecDepth 20000 in
theorem z_k105 : (z_tb 1)[26]? = some (.code (z_nm 105) (z_cc 105) (z_mL 105) (z_rt 105)) := rfl
set_option maxRecDepth 20000 in
theorem z_k106 : (z_tb 3)[58]? = some (.code (z_nm 106) (z_cc 106) (z_mL 106) (z_rt 106)) := rfl
set_option maxRecDepth 20000 in
theorem z_k107 : (z_tb 3)[66]? = some (.code (z_nm 107) (z_cc 107) (z_mL 107) (z_rt 107)) := rfl
set_option maxRecDepth 20000 in
theorem z_k108 : (z_tb 3)[70]? = some (.code (z_nm 108) (z_cc 108) (z_mL 108) (z_rt 108)) := rfl
set_option maxRecDepth 20000 in
theorem z_k109 : (z_tb 3)[74]? = some (.code (z_nm 109) (z_cc 109) (z_mL 109) (z_rt 109)) := rfl
set_option maxRecDepth 20000 in
theorem z_k110 : (z_tb 3)[225]? = some (.code (z_nm 110) (z_cc 110) (z_mL 110) (z_rt 110)) := rfl
set_option maxRecDepth 20000 in
theorem z_k111 : (z_tb 4)[60]? = some (.code (z_nm 111) (z_cc 111) (z_mL 111) (z_rt 111)) := rfl
set_option maxRecDepth 20000 in
theorem z_k112 : (z_tb 4)[64]? = some (.code (z_nm 112) (z_cc 112) (z_mL 112) (z_rt 112)) := rfl
set_option maxRecDepth 20000 in
theorem z_k113 : (z_tb 4)[69]? = some (.code (z_nm 113) (z_cc 113) (z_mL 113) (z_rt 113)) := rfl
set_option maxRecDepth 20000 in
theorem z_k114 : (z_tb 4)[80]? = some (.code (z_nm 114) (z_cc 114) (z_mL 114) (z_rt 114)) := rfl
set_option maxRecDepth 20000 in
theorem z_k115 : (z_tb 4)[94]? = some (.code (z_nm 115) (z_cc 115) (z_mL 115) (z_rt 115)) := rfl
set_option maxRecDepth 20000 in
theorem z_k116 : (z_tb 4)[106]? = some (.code (z_nm 116) (z_cc 116) (z_mL 116) (z_rt 116)) := rfl
set_option maxRecDepth 20000 in
theorem z_k117 : (z_tb 4)[110]? = some (.code (z_nm 117) (z_cc 117) (z_mL 117) (z_rt 117)) := rfl
set_option maxRecDepth 20000 in
theorem z_k118 : (z_tb 4)[125]? = some (.code (z_nm 118) (z_cc 118) (z_mL 118) (z_rt 118)) := rfl
set_option maxRecDepth 20000 in
theorem z_k119 : (z_tb 4)[164]? = some (.code (z_nm 119) (z_cc 119) (z_mL 119) (z_rt 119)) := rfl
set_option maxRecDepth 20000 in
theorem z_k120 : (z_tb 4)[168]? = some (.code (z_nm 120) (z_cc 120) (z_mL 120) (z_rt 120)) := rfl
set_option maxRecDepth 20000 in
theorem z_k121 : (z_tb 4)[129]? = some (.code (z_nm 121) (z_cc 121) (z_mL 121) (z_rt 121)) := rfl
set_option maxRecDepth 20000 in
theorem z_k122 : (z_tb 4)[176]? = some (.code (z_nm 122) (z_cc 122) (z_mL 122) (z_rt 122)) := rfl
set_option maxRecDepth 20000 in
theorem z_k123 : (z_tb 4)[197]? = some (.code (z_nm 123) (z_cc 123) (z_mL 123) (z_rt 123)) := rfl
set_option maxRecDepth 20000 in
theorem z_k124 : (z_tb 4)[205]? = some (.code (z_nm 124) (z_cc 124) (z_mL 124) (z_rt 124)) := rfl
set_option maxRecDepth 20000 in
theorem z_k125 : (z_tb 4)[209]? = some (.code (z_nm 125) (z_cc 125) (z_mL 125) (z_rt 125)) := rfl
set_option maxRecDepth 20000 in
theorem z_k126 : (z_tb 4)[227]? = some (.code (z_nm 126) (z_cc 126) (z_mL 126) (z_rt 126)) := rfl
set_option maxRecDepth 20000 in
theorem z_k127 : (z_tb 4)[235]? = some (.code (z_nm 127) (z_cc 127) (z_mL 127) (z_rt 127)) := rfl
set_option maxRecDepth 20000 in
theorem z_k128 : (z_tb 5)[0]? = some (.code (z_nm 128) (z_cc 128) (z_mL 128) (z_rt 128)) := rfl
set_option maxRecDepth 20000 in
theorem z_k129 : (z_tb 5)[4]? = some (.code (z_nm 129) (z_cc 129) (z_mL 129) (z_rt 129)) := rfl
set_option maxRecDepth 20000 in
theorem z_k130 : (z_tb 5)[8]? = some (.code (z_nm 130) (z_cc 130) (z_mL 130) (z_rt 130)) := rfl
set_option maxRecDepth 20000 in
theorem z_k131 : (z_tb 5)[19]? = some (.code (z_nm 131) (z_cc 131) (z_mL 131) (z_rt 131)) := rfl
set_option maxRecDepth 20000 in
theorem z_k132 : (z_tb 5)[59]? = some (.code (z_nm 132) (z_cc 132) (z_mL 132) (z_rt 132)) := rfl
set_option maxRecDepth 20000 in
theorem z_k133 : (z_tb 5)[73]? = some (.code (z_nm 133) (z_cc 133) (z_mL 133) (z_rt 133)) := rfl
set_option maxRecDepth 20000 in
theorem z_k134 : (z_tb 5)[88]? = some (.code (z_nm 134) (z_cc 134) (z_mL 134) (z_rt 134)) := rfl
set_option maxRecDepth 20000 in
theorem z_k135 : (z_tb 5)[96]? = some (.code (z_nm 135) (z_cc 135) (z_mL 135) (z_rt 135)) := rfl
set_option maxRecDepth 20000 in
theorem z_k136 : (z_tb 5)[101]? = some (.code (z_nm 136) (z_cc 136) (z_mL 136) (z_rt 136)) := rfl
set_option maxRecDepth 20000 in
theorem z_k137 : (z_tb 5)[105]? = some (.code (z_nm 137) (z_cc 137) (z_mL 137) (z_rt 137)) := rfl
set_option maxRecDepth 20000 in
theorem z_k138 : (z_tb 5)[109]? = some (.code (z_nm 138) (z_cc 138) (z_mL 138) (z_rt 138)) := rfl
set_option maxRecDepth 20000 in
theorem z_k139 : (z_tb 5)[117]? = some (.code (z_nm 139) (z_cc 139) (z_mL 139) (z_rt 139)) := rfl
set_option maxRecDepth 20000 in
theorem z_k140 : (z_tb 5)[113]? = some (.code (z_nm 140) (z_cc 140) (z_mL 140) (z_rt 140)) := rfl
set_option maxRecDepth 20000 in
theorem z_k141 : (z_tb 5)[121]? = some (.code (z_nm 141) (z_cc 141) (z_mL 141) (z_rt 141)) := rfl
set_option maxRecDepth 20000 in
theorem z_k142 : (z_tb 5)[125]? = some (.code (z_nm 142) (z_cc 142) (z_mL 142) (z_rt 142)) := rfl
set_option maxRecDepth 20000 in
theorem z_k143 : (z_tb 5)[132]? = some (.code (z_nm 143) (z_cc 143) (z_mL 143) (z_rt 143)) := rfl
set_option maxRecDepth 20000 in
theorem z_k144 : (z_tb 5)[140]? = some (.code (z_nm 144) (z_cc 144) (z_mL 144) (z_rt 144)) := rfl
set_option maxRecDepth 20000 in
theorem z_k145 : (z_tb 5)[144]? = some (.code (z_nm 145) (z_cc 145) (z_mL 145) (z_rt 145)) := rfl
set_option maxRecDepth 20000 in
theorem z_k146 : (z_tb 5)[152]? = some (.code (z_nm 146) (z_cc 146) (z_mL 146) (z_rt 146)) := rfl
set_option maxRecDepth 20000 in
theorem z_k147 : (z_tb 5)[167]? = some (.code (z_nm 147) (z_cc 147) (z_mL 147) (z_rt 147)) := rfl
set_option maxRecDepth 20000 in
theorem z_k148 : (z_tb 5)[171]? = some (.code (z_nm 148) (z_cc 148) (z_mL 148) (z_rt 148)) := rfl
set_option maxRecDepth 20000 in
theorem z_k149 : (z_tb 5)[195]? = some (.code (z_nm 149) (z_cc 149) (z_mL 149) (z_rt 149)) := rfl
set_option maxRecDepth 20000 in
theorem z_k150 : (z_tb 3)[62]? = some (.code (z_nm 150) (z_cc 150) (z_mL 150) (z_rt 150)) := rfl
set_option maxRecDepth 20000 in
theorem z_k151 : (z_tb 4)[172]? = some (.code (z_nm 151) (z_cc 151) (z_mL 151) (z_rt 151)) := rfl
set_option maxRecDepth 20000 in
theorem z_k152 : (z_tb 4)[114]? = some (.code (z_nm 152) (z_cc 152) (z_mL 152) (z_rt 152)) := rfl
set_option maxRecDepth 20000 in
theorem z_k153 : (z_tb 4)[180]? = some (.code (z_nm 153) (z_cc 153) (z_mL 153) (z_rt 153)) := rfl
set_option maxRecDepth 20000 in
theorem z_k154 : (z_tb 5)[200]? = some (.code (z_nm 154) (z_cc 154) (z_mL 154) (z_rt 154)) := rfl
set_option maxRecDepth 20000 in
theorem z_k155 : (z_tb 6)[237]? = some (.code (z_nm 155) (z_cc 155) (z_mL 155) (z_rt 155)) := rfl
set_option maxRecDepth 20000 in
theorem z_k156 : (z_tb 6)[191]? = some (.code (z_nm 156) (z_cc 156) (z_mL 156) (z_rt 156)) := rfl
set_option maxRecDepth 20000 in
theorem z_k157 : (z_tb 6)[183]? = some (.code (z_nm 157) (z_cc 157) (z_mL 157) (z_rt 157)) := rfl
set_option maxRecDepth 20000 in
theorem z_k158 : (z_tb 6)[195]? = some (.code (z_nm 158) (z_cc 158) (z_mL 158) (z_rt 158)) := rfl
set_option maxRecDepth 20000 in
theorem z_k159 : (z_tb 6)[226]? = some (.code (z_nm 159) (z_cc 159) (z_mL 159) (z_rt 159)) := rfl
set_option maxRecDepth 20000 in
theorem z_k160 : (z_tb 6)[206]? = some (.code (z_nm 160) (z_cc 160) (z_mL 160) (z_rt 160)) := rfl
set_option maxRecDepth 20000 in
theorem z_k161 : (z_tb 6)[209]? = some (.code (z_nm 161) (z_cc 161) (z_mL 161) (z_rt 161)) := rfl
set_option maxRecDepth 20000 in
theorem z_k162 : (z_tb 6)[222]? = some (.code (z_nm 162) (z_cc 162) (z_mL 162) (z_rt 162)) := rfl
set_option maxRecDepth 20000 in
theorem z_k163 : (z_tb 6)[203]? = some (.code (z_nm 163) (z_cc 163) (z_mL 163) (z_rt 163)) := rfl
set_option maxRecDepth 20000 in
theorem z_k164 : (z_tb 7)[5]? = some (.code (z_nm 164) (z_cc 164) (z_mL 164) (z_rt 164)) := rfl
set_option maxRecDepth 20000 in
theorem z_k165 : (z_tb 6)[230]? = some (.code (z_nm 165) (z_cc 165) (z_mL 165) (z_rt 165)) := rfl
set_option maxRecDepth 20000 in
theorem z_k166 : (z_tb 7)[9]? = some (.code (z_nm 166) (z_cc 166) (z_mL 166) (z_rt 166)) := rfl
set_option maxRecDepth 20000 in
theorem z_k167 : (z_tb 7)[33]? = some (.code (z_nm 167) (z_cc 167) (z_mL 167) (z_rt 167)) := rfl
set_option maxRecDepth 20000 in
theorem z_k168 : (z_tb 7)[56]? = some (.code (z_nm 168) (z_cc 168) (z_mL 168) (z_rt 168)) := rfl
set_option maxRecDepth 20000 in
theorem z_k169 : (z_tb 6)[234]? = some (.code (z_nm 169) (z_cc 169) (z_mL 169) (z_rt 169)) := rfl
set_option maxRecDepth 20000 in
theorem z_k170 : (z_tb 7)[102]? = some (.code (z_nm 170) (z_cc 170) (z_mL 170) (z_rt 170)) := rfl
set_option maxRecDepth 20000 in
theorem z_k171 : (z_tb 7)[113]? = some (.code (z_nm 171) (z_cc 171) (z_mL 171) (z_rt 171)) := rfl
set_option maxRecDepth 20000 in
theorem z_k172 : (z_tb 7)[110]? = some (.code (z_nm 172) (z_cc 172) (z_mL 172) (z_rt 172)) := rfl
set_option maxRecDepth 20000 in
theorem z_k173 : (z_tb 7)[94]? = some (.code (z_nm 173) (z_cc 173) (z_mL 173) (z_rt 173)) := rfl
set_option maxRecDepth 20000 in
theorem z_k174 : (z_tb 7)[83]? = some (.code (z_nm 174) (z_cc 174) (z_mL 174) (z_rt 174)) := rfl
set_option maxRecDepth 20000 in
theorem z_k175 : (z_tb 7)[98]? = some (.code (z_nm 175) (z_cc 175) (z_mL 175) (z_rt 175)) := rfl
set_option maxRecDepth 20000 in
theorem z_k176 : (z_tb 7)[90]? = some (.code (z_nm 176) (z_cc 176) (z_mL 176) (z_rt 176)) := rfl
set_option maxRecDepth 20000 in
theorem z_k177 : (z_tb 7)[87]? = some (.code (z_nm 177) (z_cc 177) (z_mL 177) (z_rt 177)) := rfl
set_option maxRecDepth 20000 in
theorem z_k178 : (z_tb 7)[106]? = some (.code (z_nm 178) (z_cc 178) (z_mL 178) (z_rt 178)) := rfl
set_option maxRecDepth 20000 in
theorem z_k179 : (z_tb 7)[79]? = some (.code (z_nm 179) (z_cc 179) (z_mL 179) (z_rt 179)) := rfl
set_option maxRecDepth 20000 in
theorem z_k180 : (z_tb 7)[22]? = some (.code (z_nm 180) (z_cc 180) (z_mL 180) (z_rt 180)) := rfl
set_option maxRecDepth 20000 in
theorem z_k181 : (z_tb 6)[218]? = some (.code (z_nm 181) (z_cc 181) (z_mL 181) (z_rt 181)) := rfl
set_option maxRecDepth 20000 in
theorem z_k182 : (z_tb 7)[71]? = some (.code (z_nm 182) (z_cc 182) (z_mL 182) (z_rt 182)) := rfl
set_option maxRecDepth 20000 in
theorem z_k183 : (z_tb 7)[18]? = some (.code (z_nm 183) (z_cc 183) (z_mL 183) (z_rt 183)) := rfl
set_option maxRecDepth 20000 in
theorem z_k184 : (z_tb 6)[213]? = some (.code (z_nm 184) (z_cc 184) (z_mL 184) (z_rt 184)) := rfl
set_option maxRecDepth 20000 in
theorem z_k185 : (z_tb 7)[29]? = some (.code (z_nm 185) (z_cc 185) (z_mL 185) (z_rt 185)) := rfl
set_option maxRecDepth 20000 in
theorem z_k186 : (z_tb 7)[64]? = some (.code (z_nm 186) (z_cc 186) (z_mL 186) (z_rt 186)) := rfl
set_option maxRecDepth 20000 in
theorem z_k187 : (z_tb 7)[60]? = some (.code (z_nm 187) (z_cc 187) (z_mL 187) (z_rt 187)) := rfl
set_option maxRecDepth 20000 in
theorem z_k188 : (z_tb 7)[68]? = some (.code (z_nm 188) (z_cc 188) (z_mL 188) (z_rt 188)) := rfl
set_option maxRecDepth 20000 in
theorem z_k189 : (z_tb 7)[75]? = some (.code (z_nm 189) (z_cc 189) (z_mL 189) (z_rt 189)) := rfl
set_option maxRecDepth 20000 in
theorem z_k190 : (z_tb 7)[13]? = some (.code (z_nm 190) (z_cc 190) (z_mL 190) (z_rt 190)) := rfl
set_option maxRecDepth 20000 in
theorem z_k191 : (z_tb 7)[1]? = some (.code (z_nm 191) (z_cc 191) (z_mL 191) (z_rt 191)) := rfl
set_option maxRecDepth 20000 in
theorem z_k192 : (z_tb 6)[199]? = some (.code (z_nm 192) (z_cc 192) (z_mL 192) (z_rt 192)) := rfl
set_option maxRecDepth 20000 in
theorem z_k193 : (z_tb 7)[184]? = some (.code (z_nm 193) (z_cc 193) (z_mL 193) (z_rt 193)) := rfl
set_option maxRecDepth 20000 in
theorem z_k194 : (z_tb 6)[187]? = some (.code (z_nm 194) (z_cc 194) (z_mL 194) (z_rt 194)) := rfl
set_option maxRecDepth 20000 in
theorem z_k195 : (z_tb 7)[188]? = some (.code (z_nm 195) (z_cc 195) (z_mL 195) (z_rt 195)) := rfl
set_option maxRecDepth 20000 in
theorem z_k196 : (z_tb 7)[200]? = some (.code (z_nm 196) (z_cc 196) (z_mL 196) (z_rt 196)) := rfl
set_option maxRecDepth 20000 in
theorem z_k197 : (z_tb 7)[117]? = some (.code (z_nm 197) (z_cc 197) (z_mL 197) (z_rt 197)) := rfl
set_option maxRecDepth 20000 in
theorem z_k198 : (z_tb 7)[196]? = some (.code (z_nm 198) (z_cc 198) (z_mL 198) (z_rt 198)) := rfl
set_option maxRecDepth 20000 in
theorem z_k199 : (z_tb 8)[139]? = some (.code (z_nm 199) (z_cc 199) (z_mL 199) (z_rt 199)) := rfl
set_option maxRecDepth 20000 in
theorem z_k200 : (z_tb 7)[192]? = some (.code (z_nm 200) (z_cc 200) (z_mL 200) (z_rt 200)) := rfl
set_option maxRecDepth 20000 in
theorem z_k201 : (z_tb 7)[163]? = some (.code (z_nm 201) (z_cc 201) (z_mL 201) (z_rt 201)) := rfl
set_option maxRecDepth 20000 in
theorem z_k202 : (z_tb 7)[168]? = some (.code (z_nm 202) (z_cc 202) (z_mL 202) (z_rt 202)) := rfl
set_option maxRecDepth 20000 in
theorem z_k203 : (z_tb 7)[160]? = some (.code (z_nm 203) (z_cc 203) (z_mL 203) (z_rt 203)) := rfl
set_option maxRecDepth 20000 in
theorem z_k204 : (z_tb 7)[157]? = some (.code (z_nm 204) (z_cc 204) (z_mL 204) (z_rt 204)) := rfl
set_option maxRecDepth 20000 in
theorem z_k205 : (z_tb 7)[145]? = some (.code (z_nm 205) (z_cc 205) (z_mL 205) (z_rt 205)) := rfl
set_option maxRecDepth 20000 in
theorem z_k206 : (z_tb 7)[211]? = some (.code (z_nm 206) (z_cc 206) (z_mL 206) (z_rt 206)) := rfl
set_option maxRecDepth 20000 in
theorem z_k207 : (z_tb 7)[137]? = some (.code (z_nm 207) (z_cc 207) (z_mL 207) (z_rt 207)) := rfl
set_option maxRecDepth 20000 in
theorem z_k208 : (z_tb 7)[133]? = some (.code (z_nm 208) (z_cc 208) (z_mL 208) (z_rt 208)) := rfl
set_option maxRecDepth 20000 in
theorem z_k209 : (z_tb 7)[153]? = some (.code (z_nm 209) (z_cc 209) (z_mL 209) (z_rt 209)) := rfl
set_option maxRecDepth 20000 in
theorem z_k210 : (z_tb 7)[125]? = some (.code (z_nm 210) (z_cc 210) (z_mL 210) (z_rt 210)) := rfl
set_option maxRecDepth 20000 in
theorem z_k211 : (z_tb 7)[129]? = some (.code (z_nm 211) (z_cc 211) (z_mL 211) (z_rt 211)) := rfl
set_option maxRecDepth 20000 in
theorem z_k212 : (z_tb 7)[180]? = some (.code (z_nm 212) (z_cc 212) (z_mL 212) (z_rt 212)) := rfl
set_option maxRecDepth 20000 in
theorem z_k213 : (z_tb 7)[236]? = some (.code (z_nm 213) (z_cc 213) (z_mL 213) (z_rt 213)) := rfl
set_option maxRecDepth 20000 in
theorem z_k214 : (z_tb 8)[0]? = some (.code (z_nm 214) (z_cc 214) (z_mL 214) (z_rt 214)) := rfl
set_option maxRecDepth 20000 in
theorem z_k215 : (z_tb 8)[12]? = some (.code (z_nm 215) (z_cc 215) (z_mL 215) (z_rt 215)) := rfl
set_option maxRecDepth 20000 in
theorem z_k216 : (z_tb 7)[149]? = some (.code (z_nm 216) (z_cc 216) (z_mL 216) (z_rt 216)) := rfl
set_option maxRecDepth 20000 in
theorem z_k217 : (z_tb 7)[141]? = some (.code (z_nm 217) (z_cc 217) (z_mL 217) (z_rt 217)) := rfl
set_option maxRecDepth 20000 in
theorem z_k218 : (z_tb 7)[176]? = some (.code (z_nm 218) (z_cc 218) (z_mL 218) (z_rt 218)) := rfl
set_option maxRecDepth 20000 in
theorem z_k219 : (z_tb 7)[172]? = some (.code (z_nm 219) (z_cc 219) (z_mL 219) (z_rt 219)) := rfl
set_option maxRecDepth 20000 in
theorem z_k220 : (z_tb 7)[121]? = some (.code (z_nm 220) (z_cc 220) (z_mL 220) (z_rt 220)) := rfl
set_option maxRecDepth 20000 in
theorem z_k221 : (z_tb 8)[36]? = some (.code (z_nm 221) (z_cc 221) (z_mL 221) (z_rt 221)) := rfl
set_option maxRecDepth 20000 in
theorem z_k222 : (z_tb 8)[50]? = some (.code (z_nm 222) (z_cc 222) (z_mL 222) (z_rt 222)) := rfl
set_option maxRecDepth 20000 in
theorem z_k223 : (z_tb 8)[32]? = some (.code (z_nm 223) (z_cc 223) (z_mL 223) (z_rt 223)) := rfl
set_option maxRecDepth 20000 in
theorem z_k224 : (z_tb 8)[40]? = some (.code (z_nm 224) (z_cc 224) (z_mL 224) (z_rt 224)) := rfl
set_option maxRecDepth 20000 in
theorem z_k225 : (z_tb 8)[46]? = some (.code (z_nm 225) (z_cc 225) (z_mL 225) (z_rt 225)) := rfl
set_option maxRecDepth 20000 in
theorem z_k226 : (z_tb 8)[28]? = some (.code (z_nm 226) (z_cc 226) (z_mL 226) (z_rt 226)) := rfl
set_option maxRecDepth 20000 in
theorem z_k227 : (z_tb 7)[228]? = some (.code (z_nm 227) (z_cc 227) (z_mL 227) (z_rt 227)) := rfl
set_option maxRecDepth 20000 in
theorem z_k228 : (z_tb 7)[219]? = some (.code (z_nm 228) (z_cc 228) (z_mL 228) (z_rt 228)) := rfl
set_option maxRecDepth 20000 in
theorem z_k229 : (z_tb 7)[208]? = some (.code (z_nm 229) (z_cc 229) (z_mL 229) (z_rt 229)) := rfl
set_option maxRecDepth 20000 in
theorem z_k230 : (z_tb 7)[204]? = some (.code (z_nm 230) (z_cc 230) (z_mL 230) (z_rt 230)) := rfl
set_option maxRecDepth 20000 in
theorem z_k231 : (z_tb 7)[215]? = some (.code (z_nm 231) (z_cc 231) (z_mL 231) (z_rt 231)) := rfl
set_option maxRecDepth 20000 in
theorem z_k232 : (z_tb 7)[224]? = some (.code (z_nm 232) (z_cc 232) (z_mL 232) (z_rt 232)) := rfl
set_option maxRecDepth 20000 in
theorem z_k233 : (z_tb 7)[232]? = some (.code (z_nm 233) (z_cc 233) (z_mL 233) (z_rt 233)) := rfl
set_option maxRecDepth 20000 in
theorem z_k234 : (z_tb 8)[4]? = some (.code (z_nm 234) (z_cc 234) (z_mL 234) (z_rt 234)) := rfl
set_option maxRecDepth 20000 in
theorem z_k235 : (z_tb 8)[20]? = some (.code (z_nm 235) (z_cc 235) (z_mL 235) (z_rt 235)) := rfl
set_option maxRecDepth 20000 in
theorem z_k236 : (z_tb 8)[24]? = some (.code (z_nm 236) (z_cc 236) (z_mL 236) (z_rt 236)) := rfl
set_option maxRecDepth 20000 in
theorem z_k237 : (z_tb 8)[8]? = some (.code (z_nm 237) (z_cc 237) (z_mL 237) (z_rt 237)) := rfl
set_option maxRecDepth 20000 in
theorem z_k238 : (z_tb 8)[16]? = some (.code (z_nm 238) (z_cc 238) (z_mL 238) (z_rt 238)) := rfl
set_option maxRecDepth 20000 in
theorem z_k239 : (z_tb 8)[54]? = some (.code (z_nm 239) (z_cc 239) (z_mL 239) (z_rt 239)) := rfl
set_option maxRecDepth 20000 in
theorem z_k240 : (z_tb 8)[58]? = some (.code (z_nm 240) (z_cc 240) (z_mL 240) (z_rt 240)) := rfl
set_option maxRecDepth 20000 in
theorem z_k241 : (z_tb 8)[74]? = some (.code (z_nm 241) (z_cc 241) (z_mL 241) (z_rt 241)) := rfl
set_option maxRecDepth 20000 in
theorem z_k242 : (z_tb 8)[78]? = some (.code (z_nm 242) (z_cc 242) (z_mL 242) (z_rt 242)) := rfl
set_option maxRecDepth 20000 in
theorem z_k243 : (z_tb 8)[70]? = some (.code (z_nm 243) (z_cc 243) (z_mL 243) (z_rt 243)) := rfl
set_option maxRecDepth 20000 in
theorem z_k244 : (z_tb 8)[66]? = some (.code (z_nm 244) (z_cc 244) (z_mL 244) (z_rt 244)) := rfl
set_option maxRecDepth 20000 in
theorem z_k245 : (z_tb 8)[62]? = some (.code (z_nm 245) (z_cc 245) (z_mL 245) (z_rt 245)) := rfl
set_option maxRecDepth 20000 in
theorem z_k246 : (z_tb 8)[82]? = some (.code (z_nm 246) (z_cc 246) (z_mL 246) (z_rt 246)) := rfl
set_option maxRecDepth 20000 in
theorem z_k247 : (z_tb 8)[86]? = some (.code (z_nm 247) (z_cc 247) (z_mL 247) (z_rt 247)) := rfl
set_option maxRecDepth 20000 in
theorem z_k248 : (z_tb 8)[90]? = some (.code (z_nm 248) (z_cc 248) (z_mL 248) (z_rt 248)) := rfl
set_option maxRecDepth 20000 in
theorem z_k249 : (z_tb 8)[98]? = some (.code (z_nm 249) (z_cc 249) (z_mL 249) (z_rt 249)) := rfl
set_option maxRecDepth 20000 in
theorem z_k250 : (z_tb 8)[94]? = some (.code (z_nm 250) (z_cc 250) (z_mL 250) (z_rt 250)) := rfl
set_option maxRecDepth 20000 in
theorem z_k251 : (z_tb 8)[102]? = some (.code (z_nm 251) (z_cc 251) (z_mL 251) (z_rt 251)) := rfl
set_option maxRecDepth 20000 in
theorem z_k252 : (z_tb 8)[106]? = some (.code (z_nm 252) (z_cc 252) (z_mL 252) (z_rt 252)) := rfl
set_option maxRecDepth 20000 in
theorem z_k253 : (z_tb 8)[110]? = some (.code (z_nm 253) (z_cc 253) (z_mL 253) (z_rt 253)) := rfl
set_option maxRecDepth 20000 in
theorem z_k254 : (z_tb 8)[122]? = some (.code (z_nm 254) (z_cc 254) (z_mL 254) (z_rt 254)) := rfl
set_option maxRecDepth 20000 in
theorem z_k255 : (z_tb 8)[118]? = some (.code (z_nm 255) (z_cc 255) (z_mL 255) (z_rt 255)) := rfl
set_option maxRecDepth 20000 in
theorem z_k256 : (z_tb 8)[114]? = some (.code (z_nm 256) (z_cc 256) (z_mL 256) (z_rt 256)) := rfl
set_option maxRecDepth 20000 in
theorem z_k257 : (z_tb 8)[131]? = some (.code (z_nm 257) (z_cc 257) (z_mL 257) (z_rt 257)) := rfl
set_option maxRecDepth 20000 in
theorem z_k258 : (z_tb 8)[126]? = some (.code (z_nm 258) (z_cc 258) (z_mL 258) (z_rt 258)) := rfl
set_option maxRecDepth 20000 in
theorem z_k259 : (z_tb 8)[135]? = some (.code (z_nm 259) (z_cc 259) (z_mL 259) (z_rt 259)) := rfl
set_option maxRecDepth 20000 in
theorem z_k260 : (z_tb 8)[143]? = some (.code (z_nm 260) (z_cc 260) (z_mL 260) (z_rt 260)) := rfl
set_option maxRecDepth 20000 in
theorem z_k261 : (z_tb 8)[147]? = some (.code (z_nm 261) (z_cc 261) (z_mL 261) (z_rt 261)) := rfl
set_option maxRecDepth 20000 in
theorem z_k262 : (z_tb 8)[151]? = some (.code (z_nm 262) (z_cc 262) (z_mL 262) (z_rt 262)) := rfl
set_option maxRecDepth 20000 in
theorem z_k263 : (z_tb 8)[159]? = some (.code (z_nm 263) (z_cc 263) (z_mL 263) (z_rt 263)) := rfl
set_option maxRecDepth 20000 in
theorem z_k264 : (z_tb 8)[155]? = some (.code (z_nm 264) (z_cc 264) (z_mL 264) (z_rt 264)) := rfl
set_option maxRecDepth 20000 in
theorem z_k265 : (z_tb 8)[167]? = some (.code (z_nm 265) (z_cc 265) (z_mL 265) (z_rt 265)) := rfl
set_option maxRecDepth 20000 in
theorem z_k266 : (z_tb 8)[171]? = some (.code (z_nm 266) (z_cc 266) (z_mL 266) (z_rt 266)) := rfl
set_option maxRecDepth 20000 in
theorem z_k267 : (z_tb 8)[179]? = some (.code (z_nm 267) (z_cc 267) (z_mL 267) (z_rt 267)) := rfl
set_option maxRecDepth 20000 in
theorem z_k268 : (z_tb 8)[175]? = some (.code (z_nm 268) (z_cc 268) (z_mL 268) (z_rt 268)) := rfl
set_option maxRecDepth 20000 in
theorem z_k269 : (z_tb 8)[183]? = some (.code (z_nm 269) (z_cc 269) (z_mL 269) (z_rt 269)) := rfl
set_option maxRecDepth 20000 in
theorem z_k270 : (z_tb 8)[195]? = some (.code (z_nm 270) (z_cc 270) (z_mL 270) (z_rt 270)) := rfl
set_option maxRecDepth 20000 in
theorem z_k271 : (z_tb 8)[199]? = some (.code (z_nm 271) (z_cc 271) (z_mL 271) (z_rt 271)) := rfl
set_option maxRecDepth 20000 in
theorem z_k272 : (z_tb 8)[191]? = some (.code (z_nm 272) (z_cc 272) (z_mL 272) (z_rt 272)) := rfl
set_option maxRecDepth 20000 in
theorem z_k273 : (z_tb 8)[187]? = some (.code (z_nm 273) (z_cc 273) (z_mL 273) (z_rt 273)) := rfl
set_option maxRecDepth 20000 in
theorem z_k274 : (z_tb 4)[17]? = some (.code (z_nm 274) (z_cc 274) (z_mL 274) (z_rt 274)) := rfl
set_option maxRecDepth 20000 in
theorem z_k275 : (z_tb 4)[34]? = some (.code (z_nm 275) (z_cc 275) (z_mL 275) (z_rt 275)) := rfl
set_option maxRecDepth 20000 in
theorem z_k276 : (z_tb 4)[37]? = some (.code (z_nm 276) (z_cc 276) (z_mL 276) (z_rt 276)) := rfl
set_option maxRecDepth 20000 in
theorem z_k277 : (z_tb 4)[145]? = some (.code (z_nm 277) (z_cc 277) (z_mL 277) (z_rt 277)) := rfl
set_option maxRecDepth 20000 in
theorem z_k278 : (z_tb 4)[43]? = some (.code (z_nm 278) (z_cc 278) (z_mL 278) (z_rt 278)) := rfl
set_option maxRecDepth 20000 in
theorem z_k279 : (z_tb 3)[90]? = some (.code (z_nm 279) (z_cc 279) (z_mL 279) (z_rt 279)) := rfl
set_option maxRecDepth 20000 in
theorem z_k280 : (z_tb 4)[40]? = some (.code (z_nm 280) (z_cc 280) (z_mL 280) (z_rt 280)) := rfl
set_option maxRecDepth 20000 in
theorem z_k281 : (z_tb 2)[60]? = some (.code (z_nm 281) (z_cc 281) (z_mL 281) (z_rt 281)) := rfl
def z_pk : List (Nat × Nat) := [(2, 207), (4, 184), (4, 188), (4, 192), (4, 201), (4, 213), (4, 223), (1, 135), (3, 78), (3, 120), (3, 112), (3, 189), (3, 116), (3, 133), (3, 125), (3, 129), (3, 137), (3, 149), (3, 153), (3, 161), (3, 205), (3, 209), (3, 213), (3, 217), (3, 185), (3, 169), (3, 173), (3, 177), (3, 221), (3, 193), (3, 201), (2, 8), (3, 233), (3, 237), (4, 9), (4, 133), (4, 137), (4, 141), (4, 46), (4, 150), (4, 231), (2, 232), (5, 156), (5, 160), (5, 163), (5, 175), (5, 180), (5, 183), (5, 188), (2, 123), (5, 92), (5, 148), (5, 82), (2, 140), (5, 77), (5, 136), (1, 34), (3, 82), (4, 84), (4, 73), (3, 165), (4, 52), (4, 219), (4, 89), (3, 141), (3, 157), (3, 197), (2, 14), (4, 14), (4, 23), (4, 27), (4, 31), (4, 46), (2, 56), (3, 229), (4, 118), (4, 1), (4, 98), (4, 102), (4, 5), (4, 56), (4, 155), (4, 160), (2, 166), (5, 12), (5, 23), (5, 27), (5, 33), (5, 38), (5, 43), (5, 51), (5, 47), (5, 55), (5, 63), (5, 68), (1, 141), (4, 76), (3, 87), (3, 94), (3, 101), (3, 108), (3, 97), (3, 104), (3, 145), (3, 181), (1, 26), (3, 58), (3, 66), (3, 70), (3, 74), (3, 225), (4, 60), (4, 64), (4, 69), (4, 80), (4, 94), (4, 106), (4, 110), (4, 125), (4, 164), (4, 168), (4, 129), (4, 176), (4, 197), (4, 205), (4, 209), (4, 227), (4, 235), (5, 0), (5, 4), (5, 8), (5, 19), (5, 59), (5, 73), (5, 88), (5, 96), (5, 101), (5, 105), (5, 109), (5, 117), (5, 113), (5, 121), (5, 125), (5, 132), (5, 140), (5, 144), (5, 152), (5, 167), (5, 171), (5, 195), (3, 62), (4, 172), (4, 114), (4, 180), (5, 200), (6, 237), (6, 191), (6, 183), (6, 195), (6, 226), (6, 206), (6, 209), (6, 222), (6, 203), (7, 5), (6, 230), (7, 9), (7, 33), (7, 56), (6, 234), (7, 102), (7, 113), (7, 110), (7, 94), (7, 83), (7, 98), (7, 90), (7, 87), (7, 106), (7, 79), (7, 22), (6, 218), (7, 71), (7, 18), (6, 213), (7, 29), (7, 64), (7, 60), (7, 68), (7, 75), (7, 13), (7, 1), (6, 199), (7, 184), (6, 187), (7, 188), (7, 200), (7, 117), (7, 196), (8, 139), (7, 192), (7, 163), (7, 168), (7, 160), (7, 157), (7, 145), (7, 211), (7, 137), (7, 133), (7, 153), (7, 125), (7, 129), (7, 180), (7, 236), (8, 0), (8, 12), (7, 149), (7, 141), (7, 176), (7, 172), (7, 121), (8, 36), (8, 50), (8, 32), (8, 40), (8, 46), (8, 28), (7, 228), (7, 219), (7, 208), (7, 204), (7, 215), (7, 224), (7, 232), (8, 4), (8, 20), (8, 24), (8, 8), (8, 16), (8, 54), (8, 58), (8, 74), (8, 78), (8, 70), (8, 66), (8, 62), (8, 82), (8, 86), (8, 90), (8, 98), (8, 94), (8, 102), (8, 106), (8, 110), (8, 122), (8, 118), (8, 114), (8, 131), (8, 126), (8, 135), (8, 143), (8, 147), (8, 151), (8, 159), (8, 155), (8, 167), (8, 171), (8, 179), (8, 175), (8, 183), (8, 195), (8, 199), (8, 191), (8, 187), (4, 17), (4, 34), (4, 37), (4, 145), (4, 43), (3, 90), (4, 40), (2, 60)]
theorem z_gk : ∀ mi, mi < 282 → Cond.code (z_nm mi) (z_cc mi) (z_mL mi) (z_rt mi) ∈ lw_tbl
  | 0, _ => z_tb_in 2 _ (List.mem_of_getElem? z_k0)
  | 1, _ => z_tb_in 4 _ (List.mem_of_getElem? z_k1)
  | 2, _ => z_tb_in 4 _ (List.mem_of_getElem? z_k2)
  | 3, _ => z_tb_in 4 _ (List.mem_of_getElem? z_k3)
  | 4, _ => z_tb_in 4 _ (List.mem_of_getElem? z_k4)
  | 5, _ => z_tb_in 4 _ (List.mem_of_getElem? z_k5)
  | 6, _ => z_tb_in 4 _ (List.mem_of_getElem? z_k6)
  | 7, _ => z_tb_in 1 _ (List.mem_of_getElem? z_k7)
  | 8, _ => z_tb_in 3 _ (List.mem_of_getElem? z_k8)
  | 9, _ => z_tb_in 3 _ (List.mem_of_getElem? z_k9)
  | 10, _ => z_tb_in 3 _ (List.mem_of_getElem? z_k10)
  | 11, _ => z_tb_in 3 _ (List.mem_of_getElem? z_k11)
  | 12, _ => z_tb_in 3 _ (List.mem_of_getElem? z_k12)
  | 13, _ => z_tb_in 3 _ (List.mem_of_getElem? z_k13)
  | 14, _ => z_tb_in 3 _ (List.mem_of_getElem? z_k14)
  | 15, _ => z_tb_in 3 _ (List.mem_of_getElem? z_k15)
  | 16, _ => z_tb_in 3 _ (List.mem_of_getElem? z_k16)
  | 17, _ => z_tb_in 3 _ (List.mem_of_getElem? z_k17)
  | 18, _ => z_tb_in 3 _ (List.mem_of_getElem? z_k18)
  | 19, _ => z_tb_in 3 _ (List.mem_of_getElem? z_k19)
  | 20, _ => z_tb_in 3 _ (List.mem_of_getElem? z_k20)
  | 21, _ => z_tb_in 3 _ (List.mem_of_getElem? z_k21)
  | 22, _ => z_tb_in 3 _ (List.mem_of_getElem? z_k22)
  | 23, _ => z_tb_in 3 _ (List.mem_of_getElem? z_k23)
  | 24, _ => z_tb_in 3 _ (List.mem_of_getElem? z_k24)
  | 25, _ => z_tb_in 3 _ (List.mem_of_getElem? z_k25)
  | 26, _ => z_tb_in 3 _ (List.mem_of_getElem? z_k26)
  | 27, _ => z_tb_in 3 _ (List.mem_of_getElem? z_k27)
  | 28, _ => z_tb_in 3 _ (List.mem_of_getElem? z_k28)
  | 29, _ => z_tb_in 3 _ (List.mem_of_getElem? z_k29)
  | 30, _ => z_tb_in 3 _ (List.mem_of_getElem? z_k30)
  | 31, _ => z_tb_in 2 _ (List.mem_of_getElem? z_k31)
  | 32, _ => z_tb_in 3 _ (List.mem_of_getElem? z_k32)
  | 33, _ => z_tb_in 3 _ (List.mem_of_getElem? z_k33)
  | 34, _ => z_tb_in 4 _ (List.mem_of_getElem? z_k34)
  | 35, _ => z_tb_in 4 _ (List.mem_of_getElem? z_k35)
  | 36, _ => z_tb_in 4 _ (List.mem_of_getElem? z_k36)
  | 37, _ => z_tb_in 4 _ (List.mem_of_getElem? z_k37)
  | 38, _ => z_tb_in 4 _ (List.mem_of_getElem? z_k38)
  | 39, _ => z_tb_in 4 _ (List.mem_of_getElem? z_k39)
  | 40, _ => z_tb_in 4 _ (List.mem_of_getElem? z_k40)
  | 41, _ => z_tb_in 2 _ (List.mem_of_getElem? z_k41)
  | 42, _ => z_tb_in 5 _ (List.mem_of_getElem? z_k42)
  | 43, _ => z_tb_in 5 _ (List.mem_of_getElem? z_k43)
  | 44, _ => z_tb_in 5 _ (List.mem_of_getElem? z_k44)
  | 45, _ => z_tb_in 5 _ (List.mem_of_getElem? z_k45)
  | 46, _ => z_tb_in 5 _ (List.mem_of_getElem? z_k46)
  | 47, _ => z_tb_in 5 _ (List.mem_of_getElem? z_k47)
  | 48, _ => z_tb_in 5 _ (List.mem_of_getElem? z_k48)
  | 49, _ => z_tb_in 2 _ (List.mem_of_getElem? z_k49)
  | 50, _ => z_tb_in 5 _ (List.mem_of_getElem? z_k50)
  | 51, _ => z_tb_in 5 _ (List.mem_of_getElem? z_k51)
  | 52, _ => z_tb_in 5 _ (List.mem_of_getElem? z_k52)
  | 53, _ => z_tb_in 2 _ (List.mem_of_getElem? z_k53)
  | 54, _ => z_tb_in 5 _ (List.mem_of_getElem? z_k54)
  | 55, _ => z_tb_in 5 _ (List.mem_of_getElem? z_k55)
  | 56, _ => z_tb_in 1 _ (List.mem_of_getElem? z_k56)
  | 57, _ => z_tb_in 3 _ (List.mem_of_getElem? z_k57)
  | 58, _ => z_tb_in 4 _ (List.mem_of_getElem? z_k58)
  | 59, _ => z_tb_in 4 _ (List.mem_of_getElem? z_k59)
  | 60, _ => z_tb_in 3 _ (List.mem_of_getElem? z_k60)
  | 61, _ => z_tb_in 4 _ (List.mem_of_getElem? z_k61)
  | 62, _ => z_tb_in 4 _ (List.mem_of_getElem? z_k62)
  | 63, _ => z_tb_in 4 _ (List.mem_of_getElem? z_k63)
  | 64, _ => z_tb_in 3 _ (List.mem_of_getElem? z_k64)
  | 65, _ => z_tb_in 3 _ (List.mem_of_getElem? z_k65)
  | 66, _ => z_tb_in 3 _ (List.mem_of_getElem? z_k66)
  | 67, _ => z_tb_in 2 _ (List.mem_of_getElem? z_k67)
  | 68, _ => z_tb_in 4 _ (List.mem_of_getElem? z_k68)
  | 69, _ => z_tb_in 4 _ (List.mem_of_getElem? z_k69)
  | 70, _ => z_tb_in 4 _ (List.mem_of_getElem? z_k70)
  | 71, _ => z_tb_in 4 _ (List.mem_of_getElem? z_k71)
  | 72, _ => z_tb_in 4 _ (List.mem_of_getElem? z_k72)
  | 73, _ => z_tb_in 2 _ (List.mem_of_getElem? z_k73)
  | 74, _ => z_tb_in 3 _ (List.mem_of_getElem? z_k74)
  | 75, _ => z_tb_in 4 _ (List.mem_of_getElem? z_k75)
  | 76, _ => z_tb_in 4 _ (List.mem_of_getElem? z_k76)
  | 77, _ => z_tb_in 4 _ (List.mem_of_getElem? z_k77)
  | 78, _ => z_tb_in 4 _ (List.mem_of_getElem? z_k78)
  | 79, _ => z_tb_in 4 _ (List.mem_of_getElem? z_k79)
  | 80, _ => z_tb_in 4 _ (List.mem_of_getElem? z_k80)
  | 81, _ => z_tb_in 4 _ (List.mem_of_getElem? z_k81)
  | 82, _ => z_tb_in 4 _ (List.mem_of_getElem? z_k82)
  | 83, _ => z_tb_in 2 _ (List.mem_of_getElem? z_k83)
  | 84, _ => z_tb_in 5 _ (List.mem_of_getElem? z_k84)
  | 85, _ => z_tb_in 5 _ (List.mem_of_getElem? z_k85)
  | 86, _ => z_tb_in 5 _ (List.mem_of_getElem? z_k86)
  | 87, _ => z_tb_in 5 _ (List.mem_of_getElem? z_k87)
  | 88, _ => z_tb_in 5 _ (List.mem_of_getElem? z_k88)
  | 89, _ => z_tb_in 5 _ (List.mem_of_getElem? z_k89)
  | 90, _ => z_tb_in 5 _ (List.mem_of_getElem? z_k90)
  | 91, _ => z_tb_in 5 _ (List.mem_of_getElem? z_k91)
  | 92, _ => z_tb_in 5 _ (List.mem_of_getElem? z_k92)
  | 93, _ => z_tb_in 5 _ (List.mem_of_getElem? z_k93)
  | 94, _ => z_tb_in 5 _ (List.mem_of_getElem? z_k94)
  | 95, _ => z_tb_in 1 _ (List.mem_of_getElem? z_k95)
  | 96, _ => z_tb_in 4 _ (List.mem_of_getElem? z_k96)
  | 97, _ => z_tb_in 3 _ (List.mem_of_getElem? z_k97)
  | 98, _ => z_tb_in 3 _ (List.mem_of_getElem? z_k98)
  | 99, _ => z_tb_in 3 _ (List.mem_of_getElem? z_k99)
  | 100, _ => z_tb_in 3 _ (List.mem_of_getElem? z_k100)
  | 101, _ => z_tb_in 3 _ (List.mem_of_getElem? z_k101)
  | 102, _ => z_tb_in 3 _ (List.mem_of_getElem? z_k102)
  | 103, _ => z_tb_in 3 _ (List.mem_of_getElem? z_k103)
  | 104, _ => z_tb_in 3 _ (List.mem_of_getElem? z_k104)
  | 105, _ => z_tb_in 1 _ (List.mem_of_getElem? z_k105)
  | 106, _ => z_tb_in 3 _ (List.mem_of_getElem? z_k106)
  | 107, _ => z_tb_in 3 _ (List.mem_of_getElem? z_k107)
  | 108, _ => z_tb_in 3 _ (List.mem_of_getElem? z_k108)
  | 109, _ => z_tb_in 3 _ (List.mem_of_getElem? z_k109)
  | 110, _ => z_tb_in 3 _ (List.mem_of_getElem? z_k110)
  | 111, _ => z_tb_in 4 _ (List.mem_of_getElem? z_k111)
  | 112, _ => z_tb_in 4 _ (List.mem_of_getElem? z_k112)
  | 113, _ => z_tb_in 4 _ (List.mem_of_getElem? z_k113)
  | 114, _ => z_tb_in 4 _ (List.mem_of_getElem? z_k114)
  | 115, _ => z_tb_in 4 _ (List.mem_of_getElem? z_k115)
  | 116, _ => z_tb_in 4 _ (List.mem_of_getElem? z_k116)
  | 117, _ => z_tb_in 4 _ (List.mem_of_getElem? z_k117)
  | 118, _ => z_tb_in 4 _ (List.mem_of_getElem? z_k118)
  | 119, _ => z_tb_in 4 _ (List.mem_of_getElem? z_k119)
  | 120, _ => z_tb_in 4 _ (List.mem_of_getElem? z_k120)
  | 121, _ => z_tb_in 4 _ (List.mem_of_getElem? z_k121)
  | 122, _ => z_tb_in 4 _ (List.mem_of_getElem? z_k122)
  | 123, _ => z_tb_in 4 _ (List.mem_of_getElem? z_k123)
  | 124, _ => z_tb_in 4 _ (List.mem_of_getElem? z_k124)
  | 125, _ => z_tb_in 4 _ (List.mem_of_getElem? z_k125)
  | 126, _ => z_tb_in 4 _ (List.mem_of_getElem? z_k126)
  | 127, _ => z_tb_in 4 _ (List.mem_of_getElem? z_k127)
  | 128, _ => z_tb_in 5 _ (List.mem_of_getElem? z_k128)
  | 129, _ => z_tb_in 5 _ (List.mem_of_getElem? z_k129)
  | 130, _ => z_tb_in 5 _ (List.mem_of_getElem? z_k130)
  | 131, _ => z_tb_in 5 _ (List.mem_of_getElem? z_k131)
  | 132, _ => z_tb_in 5 _ (List.mem_of_getElem? z_k132)
  | 133, _ => z_tb_in 5 _ (List.mem_of_getElem? z_k133)
  | 134, _ => z_tb_in 5 _ (List.mem_of_getElem? z_k134)
  | 135, _ => z_tb_in 5 _ (List.mem_of_getElem? z_k135)
  | 136, _ => z_tb_in 5 _ (List.mem_of_getElem? z_k136)
  | 137, _ => z_tb_in 5 _ (List.mem_of_getElem? z_k137)
  | 138, _ => z_tb_in 5 _ (List.mem_of_getElem? z_k138)
  | 139, _ => z_tb_in 5 _ (List.mem_of_getElem? z_k139)
  | 140, _ => z_tb_in 5 _ (List.mem_of_getElem? z_k140)
  | 141, _ => z_tb_in 5 _ (List.mem_of_getElem? z_k141)
  | 142, _ => z_tb_in 5 _ (List.mem_of_getElem? z_k142)
  | 143, _ => z_tb_in 5 _ (List.mem_of_getElem? z_k143)
  | 144, _ => z_tb_in 5 _ (List.mem_of_getElem? z_k144)
  | 145, _ => z_tb_in 5 _ (List.mem_of_getElem? z_k145)
  | 146, _ => z_tb_in 5 _ (List.mem_of_getElem? z_k146)
  | 147, _ => z_tb_in 5 _ (List.mem_of_getElem? z_k147)
  | 148, _ => z_tb_in 5 _ (List.mem_of_getElem? z_k148)
  | 149, _ => z_tb_in 5 _ (List.mem_of_getElem? z_k149)
  | 150, _ => z_tb_in 3 _ (List.mem_of_getElem? z_k150)
  | 151, _ => z_tb_in 4 _ (List.mem_of_getElem? z_k151)
  | 152, _ => z_tb_in 4 _ (List.mem_of_getElem? z_k152)
  | 153, _ => z_tb_in 4 _ (List.mem_of_getElem? z_k153)
  | 154, _ => z_tb_in 5 _ (List.mem_of_getElem? z_k154)
  | 155, _ => z_tb_in 6 _ (List.mem_of_getElem? z_k155)
  | 156, _ => z_tb_in 6 _ (List.mem_of_getElem? z_k156)
  | 157, _ => z_tb_in 6 _ (List.mem_of_getElem? z_k157)
  | 158, _ => z_tb_in 6 _ (List.mem_of_getElem? z_k158)
  | 159, _ => z_tb_in 6 _ (List.mem_of_getElem? z_k159)
  | 160, _ => z_tb_in 6 _ (List.mem_of_getElem? z_k160)
  | 161, _ => z_tb_in 6 _ (List.mem_of_getElem? z_k161)
  | 162, _ => z_tb_in 6 _ (List.mem_of_getElem? z_k162)
  | 163, _ => z_tb_in 6 _ (List.mem_of_getElem? z_k163)
  | 164, _ => z_tb_in 7 _ (List.mem_of_getElem? z_k164)
  | 165, _ => z_tb_in 6 _ (List.mem_of_getElem? z_k165)
  | 166, _ => z_tb_in 7 _ (List.mem_of_getElem? z_k166)
  | 167, _ => z_tb_in 7 _ (List.mem_of_getElem? z_k167)
  | 168, _ => z_tb_in 7 _ (List.mem_of_getElem? z_k168)
  | 169, _ => z_tb_in 6 _ (List.mem_of_getElem? z_k169)
  | 170, _ => z_tb_in 7 _ (List.mem_of_getElem? z_k170)
  | 171, _ => z_tb_in 7 _ (List.mem_of_getElem? z_k171)
  | 172, _ => z_tb_in 7 _ (List.mem_of_getElem? z_k172)
  | 173, _ => z_tb_in 7 _ (List.mem_of_getElem? z_k173)
  | 174, _ => z_tb_in 7 _ (List.mem_of_getElem? z_k174)
  | 175, _ => z_tb_in 7 _ (List.mem_of_getElem? z_k175)
  | 176, _ => z_tb_in 7 _ (List.mem_of_getElem? z_k176)
  | 177, _ => z_tb_in 7 _ (List.mem_of_getElem? z_k177)
  | 178, _ => z_tb_in 7 _ (List.mem_of_getElem? z_k178)
  | 179, _ => z_tb_in 7 _ (List.mem_of_getElem? z_k179)
  | 180, _ => z_tb_in 7 _ (List.mem_of_getElem? z_k180)
  | 181, _ => z_tb_in 6 _ (List.mem_of_getElem? z_k181)
  | 182, _ => z_tb_in 7 _ (List.mem_of_getElem? z_k182)
  | 183, _ => z_tb_in 7 _ (List.mem_of_getElem? z_k183)
  | 184, _ => z_tb_in 6 _ (List.mem_of_getElem? z_k184)
  | 185, _ => z_tb_in 7 _ (List.mem_of_getElem? z_k185)
  | 186, _ => z_tb_in 7 _ (List.mem_of_getElem? z_k186)
  | 187, _ => z_tb_in 7 _ (List.mem_of_getElem? z_k187)
  | 188, _ => z_tb_in 7 _ (List.mem_of_getElem? z_k188)
  | 189, _ => z_tb_in 7 _ (List.mem_of_getElem? z_k189)
  | 190, _ => z_tb_in 7 _ (List.mem_of_getElem? z_k190)
  | 191, _ => z_tb_in 7 _ (List.mem_of_getElem? z_k191)
  | 192, _ => z_tb_in 6 _ (List.mem_of_getElem? z_k192)
  | 193, _ => z_tb_in 7 _ (List.mem_of_getElem? z_k193)
  | 194, _ => z_tb_in 6 _ (List.mem_of_getElem? z_k194)
  | 195, _ => z_tb_in 7 _ (List.mem_of_getElem? z_k195)
  | 196, _ => z_tb_in 7 _ (List.mem_of_getElem? z_k196)
  | 197, _ => z_tb_in 7 _ (List.mem_of_getElem? z_k197)
  | 198, _ => z_tb_in 7 _ (List.mem_of_getElem? z_k198)
  | 199, _ => z_tb_in 8 _ (List.mem_of_getElem? z_k199)
  | 200, _ => z_tb_in 7 _ (List.mem_of_getElem? z_k200)
  | 201, _ => z_tb_in 7 _ (List.mem_of_getElem? z_k201)
  | 202, _ => z_tb_in 7 _ (List.mem_of_getElem? z_k202)
  | 203, _ => z_tb_in 7 _ (List.mem_of_getElem? z_k203)
  | 204, _ => z_tb_in 7 _ (List.mem_of_getElem? z_k204)
  | 205, _ => z_tb_in 7 _ (List.mem_of_getElem? z_k205)
  | 206, _ => z_tb_in 7 _ (List.mem_of_getElem? z_k206)
  | 207, _ => z_tb_in 7 _ (List.mem_of_getElem? z_k207)
  | 208, _ => z_tb_in 7 _ (List.mem_of_getElem? z_k208)
  | 209, _ => z_tb_in 7 _ (List.mem_of_getElem? z_k209)
  | 210, _ => z_tb_in 7 _ (List.mem_of_getElem? z_k210)
  | 211, _ => z_tb_in 7 _ (List.mem_of_getElem? z_k211)
  | 212, _ => z_tb_in 7 _ (List.mem_of_getElem? z_k212)
  | 213, _ => z_tb_in 7 _ (List.mem_of_getElem? z_k213)
  | 214, _ => z_tb_in 8 _ (List.mem_of_getElem? z_k214)
  | 215, _ => z_tb_in 8 _ (List.mem_of_getElem? z_k215)
  | 216, _ => z_tb_in 7 _ (List.mem_of_getElem? z_k216)
  | 217, _ => z_tb_in 7 _ (List.mem_of_getElem? z_k217)
  | 218, _ => z_tb_in 7 _ (List.mem_of_getElem? z_k218)
  | 219, _ => z_tb_in 7 _ (List.mem_of_getElem? z_k219)
  | 220, _ => z_tb_in 7 _ (List.mem_of_getElem? z_k220)
  | 221, _ => z_tb_in 8 _ (List.mem_of_getElem? z_k221)
  | 222, _ => z_tb_in 8 _ (List.mem_of_getElem? z_k222)
  | 223, _ => z_tb_in 8 _ (List.mem_of_getElem? z_k223)
  | 224, _ => z_tb_in 8 _ (List.mem_of_getElem? z_k224)
  | 225, _ => z_tb_in 8 _ (List.mem_of_getElem? z_k225)
  | 226, _ => z_tb_in 8 _ (List.mem_of_getElem? z_k226)
  | 227, _ => z_tb_in 7 _ (List.mem_of_getElem? z_k227)
  | 228, _ => z_tb_in 7 _ (List.mem_of_getElem? z_k228)
  | 229, _ => z_tb_in 7 _ (List.mem_of_getElem? z_k229)
  | 230, _ => z_tb_in 7 _ (List.mem_of_getElem? z_k230)
  | 231, _ => z_tb_in 7 _ (List.mem_of_getElem? z_k231)
  | 232, _ => z_tb_in 7 _ (List.mem_of_getElem? z_k232)
  | 233, _ => z_tb_in 7 _ (List.mem_of_getElem? z_k233)
  | 234, _ => z_tb_in 8 _ (List.mem_of_getElem? z_k234)
  | 235, _ => z_tb_in 8 _ (List.mem_of_getElem? z_k235)
  | 236, _ => z_tb_in 8 _ (List.mem_of_getElem? z_k236)
  | 237, _ => z_tb_in 8 _ (List.mem_of_getElem? z_k237)
  | 238, _ => z_tb_in 8 _ (List.mem_of_getElem? z_k238)
  | 239, _ => z_tb_in 8 _ (List.mem_of_getElem? z_k239)
  | 240, _ => z_tb_in 8 _ (List.mem_of_getElem? z_k240)
  | 241, _ => z_tb_in 8 _ (List.mem_of_getElem? z_k241)
  | 242, _ => z_tb_in 8 _ (List.mem_of_getElem? z_k242)
  | 243, _ => z_tb_in 8 _ (List.mem_of_getElem? z_k243)
  | 244, _ => z_tb_in 8 _ (List.mem_of_getElem? z_k244)
  | 245, _ => z_tb_in 8 _ (List.mem_of_getElem? z_k245)
  | 246, _ => z_tb_in 8 _ (List.mem_of_getElem? z_k246)
  | 247, _ => z_tb_in 8 _ (List.mem_of_getElem? z_k247)
  | 248, _ => z_tb_in 8 _ (List.mem_of_getElem? z_k248)
  | 249, _ => z_tb_in 8 _ (List.mem_of_getElem? z_k249)
  | 250, _ => z_tb_in 8 _ (List.mem_of_getElem? z_k250)
  | 251, _ => z_tb_in 8 _ (List.mem_of_getElem? z_k251)
  | 252, _ => z_tb_in 8 _ (List.mem_of_getElem? z_k252)
  | 253, _ => z_tb_in 8 _ (List.mem_of_getElem? z_k253)
  | 254, _ => z_tb_in 8 _ (List.mem_of_getElem? z_k254)
  | 255, _ => z_tb_in 8 _ (List.mem_of_getElem? z_k255)
  | 256, _ => z_tb_in 8 _ (List.mem_of_getElem? z_k256)
  | 257, _ => z_tb_in 8 _ (List.mem_of_getElem? z_k257)
  | 258, _ => z_tb_in 8 _ (List.mem_of_getElem? z_k258)
  | 259, _ => z_tb_in 8 _ (List.mem_of_getElem? z_k259)
  | 260, _ => z_tb_in 8 _ (List.mem_of_getElem? z_k260)
  | 261, _ => z_tb_in 8 _ (List.mem_of_getElem? z_k261)
  | 262, _ => z_tb_in 8 _ (List.mem_of_getElem? z_k262)
  | 263, _ => z_tb_in 8 _ (List.mem_of_getElem? z_k263)
  | 264, _ => z_tb_in 8 _ (List.mem_of_getElem? z_k264)
  | 265, _ => z_tb_in 8 _ (List.mem_of_getElem? z_k265)
  | 266, _ => z_tb_in 8 _ (List.mem_of_getElem? z_k266)
  | 267, _ => z_tb_in 8 _ (List.mem_of_getElem? z_k267)
  | 268, _ => z_tb_in 8 _ (List.mem_of_getElem? z_k268)
  | 269, _ => z_tb_in 8 _ (List.mem_of_getElem? z_k269)
  | 270, _ => z_tb_in 8 _ (List.mem_of_getElem? z_k270)
  | 271, _ => z_tb_in 8 _ (List.mem_of_getElem? z_k271)
  | 272, _ => z_tb_in 8 _ (List.mem_of_getElem? z_k272)
  | 273, _ => z_tb_in 8 _ (List.mem_of_getElem? z_k273)
  | 274, _ => z_tb_in 4 _ (List.mem_of_getElem? z_k274)
  | 275, _ => z_tb_in 4 _ (List.mem_of_getElem? z_k275)
  | 276, _ => z_tb_in 4 _ (List.mem_of_getElem? z_k276)
  | 277, _ => z_tb_in 4 _ (List.mem_of_getElem? z_k277)
  | 278, _ => z_tb_in 4 _ (List.mem_of_getElem? z_k278)
  | 279, _ => z_tb_in 3 _ (List.mem_of_getElem? z_k279)
  | 280, _ => z_tb_in 4 _ (List.mem_of_getElem? z_k280)
  | 281, _ => z_tb_in 2 _ (List.mem_of_getElem? z_k281)
  | m + 282, h => by omega
theorem z_gm : ∀ mi, mi < 282 → GoodIn lw_tbl (z_wmi mi) := by
  intro mi h w hw
  rcases List.mem_cons.mp hw with rfl | hw
  · exact ⟨z_gk mi h, Or.inl rfl⟩
  · exact z_gmj mi h w hw
theorem z_gc0 : GoodIn lw_tbl (z_wci 0) := z_chk_ok _ [(2, 204), (1, 16), (2, 215), (2, 217), (2, 219), (2, 221), (2, 223), (2, 225)] (by decide +kernel)
theorem z_gc1 : GoodIn lw_tbl (z_wci 1) := z_chk_ok _ [(1, 132), (1, 3), (1, 233), (1, 235), (1, 237), (1, 239), (2, 1)] (by decide +kernel)
theorem z_gc2 : GoodIn lw_tbl (z_wci 2) := z_chk_ok _ [(2, 5), (1, 9), (2, 43), (2, 45), (2, 47), (2, 49)] (by decide +kernel)
theorem z_gc3 : GoodIn lw_tbl (z_wci 3) := z_chk_ok _ [(2, 229), (1, 17), (2, 238), (3, 0)] (by decide +kernel)
theorem z_gc4 : GoodIn lw_tbl (z_wci 4) := z_chk_ok _ [(2, 120), (1, 13), (2, 129), (2, 131), (2, 133)] (by decide +kernel)
theorem z_gc5 : GoodIn lw_tbl (z_wci 5) := z_chk_ok _ [(2, 137), (1, 14), (2, 153), (2, 155), (2, 157), (2, 159)] (by decide +kernel)
theorem z_gc6 : GoodIn lw_tbl (z_wci 6) := z_chk_ok _ [(1, 31), (1, 2), (1, 97), (1, 99), (1, 101), (1, 103), (1, 105), (1, 107), (1, 109), (1, 111), (1, 113), (1, 115), (1, 117), (1, 119), (1, 121), (1, 123), (1, 125), (1, 127)] (by decide +kernel)
theorem z_gc7 : GoodIn lw_tbl (z_wci 7) := z_chk_ok _ [(2, 11), (1, 10), (2, 22), (2, 24), (2, 26), (2, 28), (2, 30), (2, 32)] (by decide +kernel)
theorem z_gc8 : GoodIn lw_tbl (z_wci 8) := z_chk_ok _ [(2, 53), (1, 11), (2, 100), (2, 102), (2, 104), (2, 106), (2, 108), (2, 110), (2, 112), (2, 114), (2, 116)] (by decide +kernel)
theorem z_gc9 : GoodIn lw_tbl (z_wci 9) := z_chk_ok _ [(2, 163), (1, 15), (2, 183), (2, 185), (2, 187), (2, 189), (2, 191), (2, 193), (2, 195), (2, 197), (2, 199)] (by decide +kernel)
theorem z_gc10 : GoodIn lw_tbl (z_wci 10) := z_chk_ok _ [(1, 138), (1, 4), (1, 206), (1, 208), (1, 210), (1, 212), (1, 214), (1, 216), (1, 218), (1, 220), (1, 222)] (by decide +kernel)
theorem z_gc11 : GoodIn lw_tbl (z_wci 11) := z_chk_ok _ [(1, 23), (1, 1), (3, 20), (3, 22), (3, 24), (3, 26), (3, 28), (3, 30), (3, 32), (3, 34), (3, 36), (3, 38), (3, 40), (3, 42), (3, 44), (3, 46), (3, 48), (3, 50), (3, 52)] (by decide +kernel)
theorem z_gc12 : GoodIn lw_tbl (z_wci 12) := z_chk_ok _ [(5, 197), (1, 18), (6, 34), (6, 36), (6, 38), (6, 40), (6, 42), (6, 44), (6, 46), (6, 48), (6, 50), (6, 52), (6, 54), (6, 56), (6, 58), (6, 60), (6, 62), (6, 64), (6, 66), (6, 68), (6, 70), (6, 72), (6, 74), (6, 76), (6, 78), (6, 80), (6, 82), (6, 84), (6, 86), (6, 88), (6, 90), (6, 92), (6, 94), (6, 96), (6, 98), (6, 100), (6, 102), (6, 104), (6, 106), (6, 108), (6, 110), (6, 112), (6, 114), (6, 116), (6, 118), (6, 120), (6, 122), (6, 124), (6, 126), (6, 128), (6, 130), (6, 132), (6, 134), (6, 136), (6, 138), (6, 140), (6, 142), (6, 144), (6, 146), (6, 148), (6, 150), (6, 152), (6, 154), (6, 156), (6, 158), (6, 160), (6, 162), (6, 164), (6, 166), (6, 168), (6, 170), (6, 172), (6, 174), (6, 176)] (by decide +kernel)
theorem z_gc : ∀ x, x < 13 → GoodIn lw_tbl (z_wci x)
  | 0, _ => z_gc0
  | 1, _ => z_gc1
  | 2, _ => z_gc2
  | 3, _ => z_gc3
  | 4, _ => z_gc4
  | 5, _ => z_gc5
  | 6, _ => z_gc6
  | 7, _ => z_gc7
  | 8, _ => z_gc8
  | 9, _ => z_gc9
  | 10, _ => z_gc10
  | 11, _ => z_gc11
  | 12, _ => z_gc12
  | n + 13, h => by omega
theorem z_gz : GoodIn lw_tbl z_wz := z_chk_ok _ [(1, 130), (6, 179), (2, 202), (1, 28), (1, 29), (4, 121), (4, 120), (1, 21)] (by decide +kernel)
def z_wsn : List Cond := [(Jvm.Cond.initialized "java/lang/String"),
  (Jvm.Cond.initialized "java/lang/StringLatin1"),
  (Jvm.Cond.initialized "jdk/internal/util/Preconditions"),
  (Jvm.Cond.instanceMethod ({ cls := "java/lang/String", name := "length", desc := "()I" } : Jvm.MethodName)),
  (Jvm.Cond.selects "java/lang/String" ({ cls := "java/lang/String", name := "length", desc := "()I" } : Jvm.MethodName) ({ cls := "java/lang/String", name := "length", desc := "()I" } : Jvm.MethodName)),
  (Jvm.Cond.methodLink "java/lang/String" (335 : Nat) ({ cls := "java/lang/String", name := "coder", desc := "()B" } : Jvm.MethodName)),
  (Jvm.Cond.instanceMethod ({ cls := "java/lang/String", name := "coder", desc := "()B" } : Jvm.MethodName)),
  (Jvm.Cond.selects "java/lang/String" ({ cls := "java/lang/String", name := "coder", desc := "()B" } : Jvm.MethodName) ({ cls := "java/lang/String", name := "coder", desc := "()B" } : Jvm.MethodName)),
  (Jvm.Cond.fieldLink "java/lang/String" (38 : Nat) "java/lang/String" "COMPACT_STRINGS" "Z"),
  (Jvm.Cond.instanceMethod ({ cls := "java/lang/String", name := "charAt", desc := "(I)C" } : Jvm.MethodName)),
  (Jvm.Cond.selects "java/lang/String" ({ cls := "java/lang/String", name := "charAt", desc := "(I)C" } : Jvm.MethodName) ({ cls := "java/lang/String", name := "charAt", desc := "(I)C" } : Jvm.MethodName)),
  (Jvm.Cond.methodLink "java/lang/String" (492 : Nat) ({ cls := "java/lang/String", name := "isLatin1", desc := "()Z" } : Jvm.MethodName)),
  (Jvm.Cond.instanceMethod ({ cls := "java/lang/String", name := "isLatin1", desc := "()Z" } : Jvm.MethodName)),
  (Jvm.Cond.selects "java/lang/String" ({ cls := "java/lang/String", name := "isLatin1", desc := "()Z" } : Jvm.MethodName) ({ cls := "java/lang/String", name := "isLatin1", desc := "()Z" } : Jvm.MethodName)),
  (Jvm.Cond.methodLink "java/lang/String" (495 : Nat) ({ cls := "java/lang/StringLatin1", name := "charAt", desc := "([BI)C" } : Jvm.MethodName)),
  (Jvm.Cond.static ({ cls := "java/lang/StringLatin1", name := "charAt", desc := "([BI)C" } : Jvm.MethodName)),
  (Jvm.Cond.methodLink "java/lang/StringLatin1" (9 : Nat) ({ cls := "java/lang/String", name := "checkIndex", desc := "(II)V" } : Jvm.MethodName)),
  (Jvm.Cond.static ({ cls := "java/lang/String", name := "checkIndex", desc := "(II)V" } : Jvm.MethodName)),
  (Jvm.Cond.fieldLink "java/lang/String" (1053 : Nat) "jdk/internal/util/Preconditions" "SIOOBE_FORMATTER" "Ljava/util/function/BiFunction;"),
  (Jvm.Cond.methodLink "java/lang/String" (1059 : Nat) ({ cls := "jdk/internal/util/Preconditions", name := "checkIndex", desc := "(IILjava/util/function/BiFunction;)I" } : Jvm.MethodName)),
  (Jvm.Cond.static ({ cls := "jdk/internal/util/Preconditions", name := "checkIndex", desc := "(IILjava/util/function/BiFunction;)I" } : Jvm.MethodName)),
  (Jvm.Cond.methodLink "java/lang/String" (498 : Nat) ({ cls := "java/lang/StringUTF16", name := "charAt", desc := "([BI)C" } : Jvm.MethodName)),
  (Jvm.Cond.fieldLink "java/lang/String" (9 : Nat) "java/lang/String" "value" "[B"),
  (Jvm.Cond.fieldLink "java/lang/String" (15 : Nat) "java/lang/String" "coder" "B")]
theorem z_gs : GoodIn lw_tbl z_wsn := z_chk_ok _ [(1, 5), (1, 6), (1, 7), (1, 145), (1, 146), (1, 148), (1, 149), (1, 150), (1, 152), (1, 155), (1, 156), (1, 158), (1, 159), (1, 160), (1, 162), (1, 163), (1, 165), (1, 166), (1, 168), (1, 170), (1, 171), (1, 173), (8, 200), (8, 201)] (by decide +kernel)
def z_wsc : List Cond := [(Jvm.Cond.code ({ cls := "java/lang/String", name := "length", desc := "()I" } : Jvm.MethodName) prog_17_method_54_code (1 : Nat) (Option.some Jvm.ClassFile.FieldType.int)),
  (Jvm.Cond.code ({ cls := "java/lang/String", name := "coder", desc := "()B" } : Jvm.MethodName) prog_17_method_152_code (1 : Nat) (Option.some Jvm.ClassFile.FieldType.byte)),
  (Jvm.Cond.code ({ cls := "java/lang/String", name := "charAt", desc := "(I)C" } : Jvm.MethodName) prog_17_method_56_code (2 : Nat) (Option.some Jvm.ClassFile.FieldType.char)),
  (Jvm.Cond.code ({ cls := "java/lang/String", name := "isLatin1", desc := "()Z" } : Jvm.MethodName) prog_17_method_154_code (1 : Nat) (Option.some Jvm.ClassFile.FieldType.boolean)),
  (Jvm.Cond.code ({ cls := "java/lang/StringLatin1", name := "charAt", desc := "([BI)C" } : Jvm.MethodName) prog_18_method_2_code (2 : Nat) (Option.some Jvm.ClassFile.FieldType.char)),
  (Jvm.Cond.code ({ cls := "java/lang/String", name := "checkIndex", desc := "(II)V" } : Jvm.MethodName) prog_17_method_155_code (2 : Nat) (Option.none : Option Jvm.ClassFile.FieldType)),
  (Jvm.Cond.code ({ cls := "jdk/internal/util/Preconditions", name := "checkIndex", desc := "(IILjava/util/function/BiFunction;)I" } : Jvm.MethodName) prog_22_method_11_code (3 : Nat) (Option.some Jvm.ClassFile.FieldType.int))]
set_option maxRecDepth 20000 in
theorem z_ks0 : (z_tb 1)[147]? = some (Jvm.Cond.code ({ cls := "java/lang/String", name := "length", desc := "()I" } : Jvm.MethodName) prog_17_method_54_code (1 : Nat) (Option.some Jvm.ClassFile.FieldType.int)) := rfl
set_option maxRecDepth 20000 in
theorem z_ks1 : (z_tb 1)[151]? = some (Jvm.Cond.code ({ cls := "java/lang/String", name := "coder", desc := "()B" } : Jvm.MethodName) prog_17_method_152_code (1 : Nat) (Option.some Jvm.ClassFile.FieldType.byte)) := rfl
set_option maxRecDepth 20000 in
theorem z_ks2 : (z_tb 1)[157]? = some (Jvm.Cond.code ({ cls := "java/lang/String", name := "charAt", desc := "(I)C" } : Jvm.MethodName) prog_17_method_56_code (2 : Nat) (Option.some Jvm.ClassFile.FieldType.char)) := rfl
set_option maxRecDepth 20000 in
theorem z_ks3 : (z_tb 1)[161]? = some (Jvm.Cond.code ({ cls := "java/lang/String", name := "isLatin1", desc := "()Z" } : Jvm.MethodName) prog_17_method_154_code (1 : Nat) (Option.some Jvm.ClassFile.FieldType.boolean)) := rfl
set_option maxRecDepth 20000 in
theorem z_ks4 : (z_tb 1)[164]? = some (Jvm.Cond.code ({ cls := "java/lang/StringLatin1", name := "charAt", desc := "([BI)C" } : Jvm.MethodName) prog_18_method_2_code (2 : Nat) (Option.some Jvm.ClassFile.FieldType.char)) := rfl
set_option maxRecDepth 20000 in
theorem z_ks5 : (z_tb 1)[167]? = some (Jvm.Cond.code ({ cls := "java/lang/String", name := "checkIndex", desc := "(II)V" } : Jvm.MethodName) prog_17_method_155_code (2 : Nat) (Option.none : Option Jvm.ClassFile.FieldType)) := rfl
set_option maxRecDepth 20000 in
theorem z_ks6 : (z_tb 1)[172]? = some (Jvm.Cond.code ({ cls := "jdk/internal/util/Preconditions", name := "checkIndex", desc := "(IILjava/util/function/BiFunction;)I" } : Jvm.MethodName) prog_22_method_11_code (3 : Nat) (Option.some Jvm.ClassFile.FieldType.int)) := rfl
theorem z_gsc : GoodIn lw_tbl z_wsc := fun w h => by
  simp only [z_wsc, List.mem_cons, List.not_mem_nil, or_false] at h
  rcases h with rfl | rfl | rfl | rfl | rfl | rfl | rfl
  · exact ⟨z_tb_in 1 _ (List.mem_of_getElem? z_ks0), Or.inl rfl⟩
  · exact ⟨z_tb_in 1 _ (List.mem_of_getElem? z_ks1), Or.inl rfl⟩
  · exact ⟨z_tb_in 1 _ (List.mem_of_getElem? z_ks2), Or.inl rfl⟩
  · exact ⟨z_tb_in 1 _ (List.mem_of_getElem? z_ks3), Or.inl rfl⟩
  · exact ⟨z_tb_in 1 _ (List.mem_of_getElem? z_ks4), Or.inl rfl⟩
  · exact ⟨z_tb_in 1 _ (List.mem_of_getElem? z_ks5), Or.inl rfl⟩
  · exact ⟨z_tb_in 1 _ (List.mem_of_getElem? z_ks6), Or.inl rfl⟩
def z_all : List Cond := (List.range 17).flatMap z_wl ++ ((List.range 282).flatMap z_wmi ++ ((List.range 13).flatMap z_wci ++ (z_wz ++ (z_wsn ++ z_wsc))))
theorem z_good : GoodIn lw_tbl z_all := by
  intro w hw
  rcases List.mem_append.mp hw with h | h
  · obtain ⟨o, -, h2⟩ := List.mem_flatMap.mp h
    exact z_gl o w h2
  · rcases List.mem_append.mp h with h | h
    · obtain ⟨mi, h1, h2⟩ := List.mem_flatMap.mp h
      exact z_gm mi (List.mem_range.mp h1) w h2
    · rcases List.mem_append.mp h with h | h
      · obtain ⟨x, h1, h2⟩ := List.mem_flatMap.mp h
        exact z_gc x (List.mem_range.mp h1) w h2
      · rcases List.mem_append.mp h with h | h
        · exact z_gz w h
        · rcases List.mem_append.mp h with h | h
          · exact z_gs w h
          · exact z_gsc w h
theorem z_in_l {o : Nat} (ho : o < 17) : ∀ w ∈ z_wl o, w ∈ z_all := fun w h => List.mem_append_left _ (List.mem_flatMap.mpr ⟨o, List.mem_range.mpr ho, h⟩)
theorem z_in_m {mi : Nat} (hm : mi < 282) : ∀ w ∈ z_wmi mi, w ∈ z_all := fun w h => List.mem_append_right _ (List.mem_append_left _ (List.mem_flatMap.mpr ⟨mi, List.mem_range.mpr hm, h⟩))
theorem z_in_c {x : Nat} (hx : x < 13) : ∀ w ∈ z_wci x, w ∈ z_all := fun w h => List.mem_append_right _ (List.mem_append_right _ (List.mem_append_left _ (List.mem_flatMap.mpr ⟨x, List.mem_range.mpr hx, h⟩)))
theorem z_in_z : ∀ w ∈ z_wz, w ∈ z_all := fun w h => List.mem_append_right _ (List.mem_append_right _ (List.mem_append_right _ (List.mem_append_left _ h)))
theorem z_in_s : ∀ w ∈ z_wsn ++ z_wsc, w ∈ z_all := fun w h => List.mem_append_right _ (List.mem_append_right _ (List.mem_append_right _ (List.mem_append_right _ h)))
/-- a callee's words are among all -/
theorem z_goodM {mi : Nat} (hm : mi < 282) : GoodIn z_all (.code (z_nm mi) (z_cc mi) (z_mL mi) (z_rt mi) :: z_all) := by
  intro w hw
  have h : w ∈ z_all := by
    rcases List.mem_cons.mp hw with rfl | h
    · exact z_in_m hm _ List.mem_cons_self
    · exact h
  exact ⟨h, (z_good w h).2⟩

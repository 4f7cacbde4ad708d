/-! The world behind the constructors: each role's class (objects by their kind, the draft of the board 12, rows by owner and field), its owner, its length. -/
def tCL : List Nat := [10, 20, 7, 8, 21, 22, 23, 24, 2, 12, 25, 2, 66, 67, 28, 29, 30, 2, 2, 2, 2, 2, 2, 2, 2, 2, 2, 2, 2, 2, 2, 2, 2, 2, 2, 2, 2, 2, 2, 2, 2, 2, 2, 2, 2, 2, 2, 2, 2, 2, 2, 2, 2, 2, 2, 2, 2, 2, 2, 2, 2, 2, 2, 2, 2, 2, 2, 2, 2, 2, 2, 2, 2, 2, 2, 2, 2, 2, 2, 2, 2, 2, 2, 2, 2, 2, 2, 2, 2, 2, 2, 2, 2, 2, 2, 2, 2, 2, 2, 2, 2, 2, 2, 2, 2, 2, 2, 2, 2, 2, 2, 2, 2, 2, 2, 2, 2, 0, 25, 2, 26, 27, 28, 29, 30, 2, 2, 2, 2, 2, 2, 2, 2, 2, 2, 2, 2, 2, 2, 2, 2, 2, 2, 2, 2, 2, 2, 2, 2, 2, 2, 2, 2, 2, 2, 2, 2, 2, 2, 2, 2, 2, 2, 2, 2, 2, 2, 2, 2, 2, 2, 2, 2, 2, 2, 2, 2, 2, 2, 2, 2, 2, 2, 2, 2, 2, 2, 2, 2, 2, 2, 2, 2, 2, 2, 2, 2, 2, 2, 2, 2, 2, 2, 2, 2, 2, 2, 2, 2, 2, 2, 2, 2, 2, 2, 2, 2, 2, 2, 2, 2, 2, 2, 2, 2, 9, 31, 1, 6, 32, 33, 34, 35, 36, 4, 37, 3, 38, 39, 40, 41, 42, 5, 43, 44, 45, 46, 1, 6, 32, 33, 34, 35, 36, 4, 37, 3, 38, 39, 40, 41, 42, 5, 43, 44, 45, 46, 47, 1, 6, 32, 33, 34, 35, 36, 4, 37, 3, 38, 39, 40, 41, 42, 5, 43, 44, 45, 46, 1, 6, 32, 33, 34, 35, 36, 4, 37, 3, 38, 39, 40, 41, 42, 5, 43, 44, 45, 46, 1, 6, 32, 33, 34, 35, 36, 4, 37, 3, 38, 39, 40, 41, 42, 5, 43, 44, 45, 46, 11, 48, 49, 50, 51, 52, 53, 54, 55, 56, 57, 58, 59, 60, 61, 62, 63, 64, 65]
def tOW : List Nat := [0, 0, 0, 0, 0, 0, 0, 0, 0, 0, 0, 0, 0, 0, 0, 0, 0, 0, 0, 0, 0, 0, 0, 0, 0, 0, 0, 0, 0, 0, 0, 0, 0, 0, 0, 0, 0, 0, 0, 0, 0, 0, 0, 0, 0, 0, 0, 0, 0, 0, 0, 0, 0, 0, 0, 0, 0, 0, 0, 0, 0, 0, 0, 0, 0, 0, 0, 0, 0, 0, 0, 0, 0, 0, 0, 0, 0, 0, 0, 0, 0, 0, 0, 0, 0, 0, 0, 0, 0, 0, 0, 0, 0, 0, 0, 0, 0, 0, 0, 0, 0, 0, 0, 0, 0, 0, 0, 0, 0, 0, 0, 0, 0, 0, 0, 0, 0, 0, 0, 0, 0, 0, 0, 0, 0, 0, 0, 0, 0, 0, 0, 0, 0, 0, 0, 0, 0, 0, 0, 0, 0, 0, 0, 0, 0, 0, 0, 0, 0, 0, 0, 0, 0, 0, 0, 0, 0, 0, 0, 0, 0, 0, 0, 0, 0, 0, 0, 0, 0, 0, 0, 0, 0, 0, 0, 0, 0, 0, 0, 0, 0, 0, 0, 0, 0, 0, 0, 0, 0, 0, 0, 0, 0, 0, 0, 0, 0, 0, 0, 0, 0, 0, 0, 0, 0, 0, 0, 0, 0, 0, 0, 0, 0, 0, 0, 0, 0, 0, 0, 0, 0, 0, 0, 0, 0, 0, 0, 227, 227, 227, 227, 227, 227, 227, 227, 227, 227, 227, 227, 227, 227, 227, 227, 227, 227, 227, 227, 247, 247, 247, 247, 247, 247, 247, 247, 247, 247, 247, 247, 247, 247, 247, 247, 247, 247, 247, 247, 0, 268, 268, 268, 268, 268, 268, 268, 268, 268, 268, 268, 268, 268, 268, 268, 268, 268, 268, 268, 268, 288, 288, 288, 288, 288, 288, 288, 288, 288, 288, 288, 288, 288, 288, 288, 288, 288, 288, 288, 288, 308, 308, 308, 308, 308, 308, 308, 308, 308, 308, 308, 308, 308, 308, 308, 308, 308, 308, 308, 308, 0, 0, 0, 0, 0, 0, 0, 0, 336, 0, 0, 0, 0, 0, 342, 0, 344, 0, 0]
def tKD : List Nat := [10, 100, 7, 8, 102, 102, 102, 107, 2, 0, 105, 2, 102, 102, 105, 102, 102, 2, 2, 2, 2, 2, 2, 2, 2, 2, 2, 2, 2, 2, 2, 2, 2, 2, 2, 2, 2, 2, 2, 2, 2, 2, 2, 2, 2, 2, 2, 2, 2, 2, 2, 2, 2, 2, 2, 2, 2, 2, 2, 2, 2, 2, 2, 2, 2, 2, 2, 2, 2, 2, 2, 2, 2, 2, 2, 2, 2, 2, 2, 2, 2, 2, 2, 2, 2, 2, 2, 2, 2, 2, 2, 2, 2, 2, 2, 2, 2, 2, 2, 2, 2, 2, 2, 2, 2, 2, 2, 2, 2, 2, 2, 2, 2, 2, 2, 2, 2, 0, 105, 2, 102, 102, 105, 102, 102, 2, 2, 2, 2, 2, 2, 2, 2, 2, 2, 2, 2, 2, 2, 2, 2, 2, 2, 2, 2, 2, 2, 2, 2, 2, 2, 2, 2, 2, 2, 2, 2, 2, 2, 2, 2, 2, 2, 2, 2, 2, 2, 2, 2, 2, 2, 2, 2, 2, 2, 2, 2, 2, 2, 2, 2, 2, 2, 2, 2, 2, 2, 2, 2, 2, 2, 2, 2, 2, 2, 2, 2, 2, 2, 2, 2, 2, 2, 2, 2, 2, 2, 2, 2, 2, 2, 2, 2, 2, 2, 2, 2, 2, 2, 2, 2, 2, 2, 2, 2, 9, 102, 1, 6, 102, 101, 102, 102, 102, 4, 102, 3, 102, 102, 102, 102, 102, 5, 102, 102, 102, 102, 1, 6, 102, 101, 102, 102, 102, 4, 102, 3, 102, 102, 102, 102, 102, 5, 102, 102, 102, 102, 106, 1, 6, 102, 101, 102, 102, 102, 4, 102, 3, 102, 102, 102, 102, 102, 5, 102, 102, 102, 102, 1, 6, 102, 101, 102, 102, 102, 4, 102, 3, 102, 102, 102, 102, 102, 5, 102, 102, 102, 102, 1, 6, 102, 101, 102, 102, 102, 4, 102, 3, 102, 102, 102, 102, 102, 5, 102, 102, 102, 102, 11, 100, 100, 102, 102, 102, 103, 103, 102, 102, 101, 102, 102, 102, 102, 101, 102, 101, 104]
def tLN : List Nat := [0, 2000, 0, 0, 401, 401, 401, 401, 0, 0, 96, 0, 4, 4, 4, 4, 32, 0, 0, 0, 0, 0, 0, 0, 0, 0, 0, 0, 0, 0, 0, 0, 0, 0, 0, 0, 0, 0, 0, 0, 0, 0, 0, 0, 0, 0, 0, 0, 0, 0, 0, 0, 0, 0, 0, 0, 0, 0, 0, 0, 0, 0, 0, 0, 0, 0, 0, 0, 0, 0, 0, 0, 0, 0, 0, 0, 0, 0, 0, 0, 0, 0, 0, 0, 0, 0, 0, 0, 0, 0, 0, 0, 0, 0, 0, 0, 0, 0, 0, 0, 0, 0, 0, 0, 0, 0, 0, 0, 0, 0, 0, 0, 0, 0, 0, 0, 0, 0, 96, 0, 4, 4, 4, 4, 32, 0, 0, 0, 0, 0, 0, 0, 0, 0, 0, 0, 0, 0, 0, 0, 0, 0, 0, 0, 0, 0, 0, 0, 0, 0, 0, 0, 0, 0, 0, 0, 0, 0, 0, 0, 0, 0, 0, 0, 0, 0, 0, 0, 0, 0, 0, 0, 0, 0, 0, 0, 0, 0, 0, 0, 0, 0, 0, 0, 0, 0, 0, 0, 0, 0, 0, 0, 0, 0, 0, 0, 0, 0, 0, 0, 0, 0, 0, 0, 0, 0, 0, 0, 0, 0, 0, 0, 0, 0, 0, 0, 0, 0, 0, 0, 0, 0, 0, 0, 0, 0, 10, 0, 0, 24, 24, 24, 24, 24, 0, 2400, 0, 24, 24, 24, 24, 25, 0, 40, 40, 40, 1000, 0, 0, 24, 24, 24, 24, 24, 0, 2400, 0, 24, 24, 24, 24, 25, 0, 40, 40, 40, 1000, 3, 0, 0, 24, 24, 24, 24, 24, 0, 2400, 0, 24, 24, 24, 24, 25, 0, 40, 40, 40, 1000, 0, 0, 24, 24, 24, 24, 24, 0, 2400, 0, 24, 24, 24, 24, 25, 0, 40, 40, 40, 1000, 0, 0, 24, 24, 24, 24, 24, 0, 2400, 0, 24, 24, 24, 24, 25, 0, 40, 40, 40, 1000, 0, 2000, 2000, 403, 403, 403, 403, 20, 9178, 352, 24, 3, 10, 25, 9178, 24, 27534, 72, 3]
def tNL : List Nat := [10, 2000, 10, 6, 401, 401, 401, 401, 3, 19, 96, 3, 4, 4, 4, 4, 32, 3, 3, 3, 3, 3, 3, 3, 3, 3, 3, 3, 3, 3, 3, 3, 3, 3, 3, 3, 3, 3, 3, 3, 3, 3, 3, 3, 3, 3, 3, 3, 3, 3, 3, 3, 3, 3, 3, 3, 3, 3, 3, 3, 3, 3, 3, 3, 3, 3, 3, 3, 3, 3, 3, 3, 3, 3, 3, 3, 3, 3, 3, 3, 3, 3, 3, 3, 3, 3, 3, 3, 3, 3, 3, 3, 3, 3, 3, 3, 3, 3, 3, 3, 3, 3, 3, 3, 3, 3, 3, 3, 3, 3, 3, 3, 3, 3, 3, 3, 3, 19, 96, 3, 4, 4, 4, 4, 32, 3, 3, 3, 3, 3, 3, 3, 3, 3, 3, 3, 3, 3, 3, 3, 3, 3, 3, 3, 3, 3, 3, 3, 3, 3, 3, 3, 3, 3, 3, 3, 3, 3, 3, 3, 3, 3, 3, 3, 3, 3, 3, 3, 3, 3, 3, 3, 3, 3, 3, 3, 3, 3, 3, 3, 3, 3, 3, 3, 3, 3, 3, 3, 3, 3, 3, 3, 3, 3, 3, 3, 3, 3, 3, 3, 3, 3, 3, 3, 3, 3, 3, 3, 3, 3, 3, 3, 3, 3, 3, 3, 3, 3, 3, 3, 3, 3, 3, 3, 3, 4, 10, 6, 9, 24, 24, 24, 24, 24, 3, 2400, 9, 24, 24, 24, 24, 25, 9, 40, 40, 40, 1000, 6, 9, 24, 24, 24, 24, 24, 3, 2400, 9, 24, 24, 24, 24, 25, 9, 40, 40, 40, 1000, 3, 6, 9, 24, 24, 24, 24, 24, 3, 2400, 9, 24, 24, 24, 24, 25, 9, 40, 40, 40, 1000, 6, 9, 24, 24, 24, 24, 24, 3, 2400, 9, 24, 24, 24, 24, 25, 9, 40, 40, 40, 1000, 6, 9, 24, 24, 24, 24, 24, 3, 2400, 9, 24, 24, 24, 24, 25, 9, 40, 40, 40, 1000, 33, 2000, 2000, 403, 403, 403, 403, 20, 9178, 352, 24, 3, 10, 25, 9178, 24, 27534, 72, 3]
def tRF : List (List Nat) := [[2, 0, 0, 3, 118, 226, 228, 248, 268], [], [4, 9, 10], [5, 6, 7, 8], [], [], [], [], [], [0, 0, 0, 0, 0, 0, 0, 0, 0, 0, 11, 12, 0, 13, 14, 15, 0, 16, 17], [18, 19, 20, 21, 22, 23, 24, 25, 26, 27, 28, 29, 30, 31, 32, 33, 34, 35, 36, 37, 38, 39, 40, 41, 42, 43, 44, 45, 46, 47, 48, 49, 50, 51, 52, 53, 54, 55, 56, 57, 58, 59, 60, 61, 62, 63, 64, 65, 66, 67, 68, 69, 70, 71, 72, 73, 74, 75, 76, 77, 78, 79, 80, 81, 82, 83, 84, 85, 86, 87, 88, 89, 90, 91, 92, 93, 94, 95, 96, 97, 98, 99, 100, 101, 102, 103, 104, 105, 106, 107, 108, 109, 110, 111, 112, 113], [], [], [], [114, 115, 116, 117], [], [], [], [], [], [], [], [], [], [], [], [], [], [], [], [], [], [], [], [], [], [], [], [], [], [], [], [], [], [], [], [], [], [], [], [], [], [], [], [], [], [], [], [], [], [], [], [], [], [], [], [], [], [], [], [], [], [], [], [], [], [], [], [], [], [], [], [], [], [], [], [], [], [], [], [], [], [], [], [], [], [], [], [], [], [], [], [], [], [], [], [], [], [], [], [], [], [], [], [], [], [], [0, 0, 0, 0, 0, 0, 0, 0, 0, 0, 119, 120, 0, 121, 122, 123, 0, 124, 125], [126, 127, 128, 129, 130, 131, 132, 133, 134, 135, 136, 137, 138, 139, 140, 141, 142, 143, 144, 145, 146, 147, 148, 149, 150, 151, 152, 153, 154, 155, 156, 157, 158, 159, 160, 161, 162, 163, 164, 165, 166, 167, 168, 169, 170, 171, 172, 173, 174, 175, 176, 177, 178, 179, 180, 181, 182, 183, 184, 185, 186, 187, 188, 189, 190, 191, 192, 193, 194, 195, 196, 197, 198, 199, 200, 201, 202, 203, 204, 205, 206, 207, 208, 209, 210, 211, 212, 213, 214, 215, 216, 217, 218, 219, 220, 221], [], [], [], [222, 223, 224, 225], [], [], [], [], [], [], [], [], [], [], [], [], [], [], [], [], [], [], [], [], [], [], [], [], [], [], [], [], [], [], [], [], [], [], [], [], [], [], [], [], [], [], [], [], [], [], [], [], [], [], [], [], [], [], [], [], [], [], [], [], [], [], [], [], [], [], [], [], [], [], [], [], [], [], [], [], [], [], [], [], [], [], [], [], [], [], [], [], [], [], [], [], [], [], [], [], [], [], [], [], [], [], [227], [], [118, 229, 235, 237, 243], [0, 0, 0, 0, 230, 231, 232, 233, 234], [], [], [], [], [], [236], [], [238, 239, 240, 241, 0, 0, 0, 242], [], [], [], [], [], [244, 245, 246, 247], [], [], [], [], [118, 249, 255, 257, 263], [0, 0, 0, 0, 250, 251, 252, 253, 254], [], [], [], [], [], [256], [], [258, 259, 260, 261, 0, 0, 0, 262], [], [], [], [], [], [264, 265, 266, 267], [], [], [], [], [269, 289, 309], [118, 270, 276, 278, 284], [0, 0, 0, 0, 271, 272, 273, 274, 275], [], [], [], [], [], [277], [], [279, 280, 281, 282, 0, 0, 0, 283], [], [], [], [], [], [285, 286, 287, 288], [], [], [], [], [118, 290, 296, 298, 304], [0, 0, 0, 0, 291, 292, 293, 294, 295], [], [], [], [], [], [297], [], [299, 300, 301, 302, 0, 0, 0, 303], [], [], [], [], [], [305, 306, 307, 308], [], [], [], [], [118, 310, 316, 318, 324], [0, 0, 0, 0, 311, 312, 313, 314, 315], [], [], [], [], [], [317], [], [319, 320, 321, 322, 0, 0, 0, 323], [], [], [], [], [], [325, 326, 327, 328], [], [], [], [], [0, 330, 0, 331, 0, 332, 333, 334, 335, 336, 0, 0, 0, 0, 0, 0, 0, 337, 338, 339, 0, 0, 0, 340, 341, 0, 0, 342, 343, 344, 345, 346, 347], [], [], [], [], [], [], [], [], [], [], [], [], [], [], [], [], [], []]
def cls (r : Nat) : Nat := tCL.getD r 99
def own (r : Nat) : Nat := tOW.getD r 0
def nln (r : Nat) : Nat := tNL.getD r 0
def rfr (r j : Nat) : Nat := (tRF.getD r []).getD j 0
/-- the shape: it stays as the constructors left it -/
def Shp (g : Gs) : Prop := gN g = 347 ∧ (∀ r, r < 347 → gK g r = tKD.getD r 0 ∧ gL g r = tLN.getD r 0) ∧ ∀ r j, rfr r j ≠ 0 → gR g r j = some (rfr r j - 1)
theorem cls_lt {r c : Nat} (h : cls r = c) (hc : c ≠ 99) : r < 347 := by
  rcases Nat.lt_or_ge r 347 with h1 | h1
  · exact h1
  · exfalso
    apply hc
    rw [← h]
    unfold cls
    rw [List.getD_eq_getElem?_getD, List.getElem?_eq_none (by show _ ≤ r; exact h1)]
    rfl
def clsT (p : Nat → Bool) (c : Nat) : Bool := (List.range 347).all (fun r => cls r != c || p r)
theorem clsT_s {p : Nat → Bool} {c : Nat} (h : clsT p c = true) (hc : c ≠ 99) {r : Nat} (hr : cls r = c) : p r = true := by
  have h2 := List.all_eq_true.mp h r (List.mem_range.mpr (cls_lt hr hc))
  rw [hr] at h2
  simpa using h2
theorem kd_0 {g : Gs} (hS : Shp g) {r : Nat} (h : cls r = 0) : chk g r 0 := by
  have h1 := cls_lt h (by decide)
  refine ⟨by rw [hS.1]; exact h1, ?_⟩
  rw [(hS.2.1 r h1).1]
  have := clsT_s (p := fun r => tKD.getD r 0 == 0) (c := 0) (by decide +kernel) (by decide) h
  exact beq_iff_eq.mp this
theorem nl_0 {r : Nat} (h : cls r = 0) : nln r = 19 := beq_iff_eq.mp (clsT_s (p := fun r => nln r == 19) (c := 0) (by decide +kernel) (by decide) h)
theorem kd_1 {g : Gs} (hS : Shp g) {r : Nat} (h : cls r = 1) : chk g r 1 := by
  have h1 := cls_lt h (by decide)
  refine ⟨by rw [hS.1]; exact h1, ?_⟩
  rw [(hS.2.1 r h1).1]
  have := clsT_s (p := fun r => tKD.getD r 0 == 1) (c := 1) (by decide +kernel) (by decide) h
  exact beq_iff_eq.mp this
theorem nl_1 {r : Nat} (h : cls r = 1) : nln r = 6 := beq_iff_eq.mp (clsT_s (p := fun r => nln r == 6) (c := 1) (by decide +kernel) (by decide) h)
theorem kd_2 {g : Gs} (hS : Shp g) {r : Nat} (h : cls r = 2) : chk g r 2 := by
  have h1 := cls_lt h (by decide)
  refine ⟨by rw [hS.1]; exact h1, ?_⟩
  rw [(hS.2.1 r h1).1]
  have := clsT_s (p := fun r => tKD.getD r 0 == 2) (c := 2) (by decide +kernel) (by decide) h
  exact beq_iff_eq.mp this
theorem nl_2 {r : Nat} (h : cls r = 2) : nln r = 3 := beq_iff_eq.mp (clsT_s (p := fun r => nln r == 3) (c := 2) (by decide +kernel) (by decide) h)
theorem kd_3 {g : Gs} (hS : Shp g) {r : Nat} (h : cls r = 3) : chk g r 3 := by
  have h1 := cls_lt h (by decide)
  refine ⟨by rw [hS.1]; exact h1, ?_⟩
  rw [(hS.2.1 r h1).1]
  have := clsT_s (p := fun r => tKD.getD r 0 == 3) (c := 3) (by decide +kernel) (by decide) h
  exact beq_iff_eq.mp this
theorem nl_3 {r : Nat} (h : cls r = 3) : nln r = 9 := beq_iff_eq.mp (clsT_s (p := fun r => nln r == 9) (c := 3) (by decide +kernel) (by decide) h)
theorem kd_4 {g : Gs} (hS : Shp g) {r : Nat} (h : cls r = 4) : chk g r 4 := by
  have h1 := cls_lt h (by decide)
  refine ⟨by rw [hS.1]; exact h1, ?_⟩
  rw [(hS.2.1 r h1).1]
  have := clsT_s (p := fun r => tKD.getD r 0 == 4) (c := 4) (by decide +kernel) (by decide) h
  exact beq_iff_eq.mp this
theorem nl_4 {r : Nat} (h : cls r = 4) : nln r = 3 := beq_iff_eq.mp (clsT_s (p := fun r => nln r == 3) (c := 4) (by decide +kernel) (by decide) h)
theorem kd_5 {g : Gs} (hS : Shp g) {r : Nat} (h : cls r = 5) : chk g r 5 := by
  have h1 := cls_lt h (by decide)
  refine ⟨by rw [hS.1]; exact h1, ?_⟩
  rw [(hS.2.1 r h1).1]
  have := clsT_s (p := fun r => tKD.getD r 0 == 5) (c := 5) (by decide +kernel) (by decide) h
  exact beq_iff_eq.mp this
theorem nl_5 {r : Nat} (h : cls r = 5) : nln r = 9 := beq_iff_eq.mp (clsT_s (p := fun r => nln r == 9) (c := 5) (by decide +kernel) (by decide) h)
theorem kd_6 {g : Gs} (hS : Shp g) {r : Nat} (h : cls r = 6) : chk g r 6 := by
  have h1 := cls_lt h (by decide)
  refine ⟨by rw [hS.1]; exact h1, ?_⟩
  rw [(hS.2.1 r h1).1]
  have := clsT_s (p := fun r => tKD.getD r 0 == 6) (c := 6) (by decide +kernel) (by decide) h
  exact beq_iff_eq.mp this
theorem nl_6 {r : Nat} (h : cls r = 6) : nln r = 9 := beq_iff_eq.mp (clsT_s (p := fun r => nln r == 9) (c := 6) (by decide +kernel) (by decide) h)
theorem kd_7 {g : Gs} (hS : Shp g) {r : Nat} (h : cls r = 7) : chk g r 7 := by
  have h1 := cls_lt h (by decide)
  refine ⟨by rw [hS.1]; exact h1, ?_⟩
  rw [(hS.2.1 r h1).1]
  have := clsT_s (p := fun r => tKD.getD r 0 == 7) (c := 7) (by decide +kernel) (by decide) h
  exact beq_iff_eq.mp this
theorem nl_7 {r : Nat} (h : cls r = 7) : nln r = 10 := beq_iff_eq.mp (clsT_s (p := fun r => nln r == 10) (c := 7) (by decide +kernel) (by decide) h)
theorem kd_8 {g : Gs} (hS : Shp g) {r : Nat} (h : cls r = 8) : chk g r 8 := by
  have h1 := cls_lt h (by decide)
  refine ⟨by rw [hS.1]; exact h1, ?_⟩
  rw [(hS.2.1 r h1).1]
  have := clsT_s (p := fun r => tKD.getD r 0 == 8) (c := 8) (by decide +kernel) (by decide) h
  exact beq_iff_eq.mp this
theorem nl_8 {r : Nat} (h : cls r = 8) : nln r = 6 := beq_iff_eq.mp (clsT_s (p := fun r => nln r == 6) (c := 8) (by decide +kernel) (by decide) h)
theorem kd_9 {g : Gs} (hS : Shp g) {r : Nat} (h : cls r = 9) : chk g r 9 := by
  have h1 := cls_lt h (by decide)
  refine ⟨by rw [hS.1]; exact h1, ?_⟩
  rw [(hS.2.1 r h1).1]
  have := clsT_s (p := fun r => tKD.getD r 0 == 9) (c := 9) (by decide +kernel) (by decide) h
  exact beq_iff_eq.mp this
theorem nl_9 {r : Nat} (h : cls r = 9) : nln r = 4 := beq_iff_eq.mp (clsT_s (p := fun r => nln r == 4) (c := 9) (by decide +kernel) (by decide) h)
theorem kd_10 {g : Gs} (hS : Shp g) {r : Nat} (h : cls r = 10) : chk g r 10 := by
  have h1 := cls_lt h (by decide)
  refine ⟨by rw [hS.1]; exact h1, ?_⟩
  rw [(hS.2.1 r h1).1]
  have := clsT_s (p := fun r => tKD.getD r 0 == 10) (c := 10) (by decide +kernel) (by decide) h
  exact beq_iff_eq.mp this
theorem nl_10 {r : Nat} (h : cls r = 10) : nln r = 10 := beq_iff_eq.mp (clsT_s (p := fun r => nln r == 10) (c := 10) (by decide +kernel) (by decide) h)
theorem kd_11 {g : Gs} (hS : Shp g) {r : Nat} (h : cls r = 11) : chk g r 11 := by
  have h1 := cls_lt h (by decide)
  refine ⟨by rw [hS.1]; exact h1, ?_⟩
  rw [(hS.2.1 r h1).1]
  have := clsT_s (p := fun r => tKD.getD r 0 == 11) (c := 11) (by decide +kernel) (by decide) h
  exact beq_iff_eq.mp this
theorem nl_11 {r : Nat} (h : cls r = 11) : nln r = 33 := beq_iff_eq.mp (clsT_s (p := fun r => nln r == 33) (c := 11) (by decide +kernel) (by decide) h)
theorem kd_12 {g : Gs} (hS : Shp g) {r : Nat} (h : cls r = 12) : chk g r 0 := by
  have h1 := cls_lt h (by decide)
  refine ⟨by rw [hS.1]; exact h1, ?_⟩
  rw [(hS.2.1 r h1).1]
  have := clsT_s (p := fun r => tKD.getD r 0 == 0) (c := 12) (by decide +kernel) (by decide) h
  exact beq_iff_eq.mp this
theorem nl_12 {r : Nat} (h : cls r = 12) : nln r = 19 := beq_iff_eq.mp (clsT_s (p := fun r => nln r == 19) (c := 12) (by decide +kernel) (by decide) h)
theorem kd_20 {g : Gs} (hS : Shp g) {r : Nat} (h : cls r = 20) : chk g r 100 := by
  have h1 := cls_lt h (by decide)
  refine ⟨by rw [hS.1]; exact h1, ?_⟩
  rw [(hS.2.1 r h1).1]
  have := clsT_s (p := fun r => tKD.getD r 0 == 100) (c := 20) (by decide +kernel) (by decide) h
  exact beq_iff_eq.mp this
theorem ln_20 {g : Gs} (hS : Shp g) {r : Nat} (h : cls r = 20) : gL g r = 2000 := by
  have h1 := cls_lt h (by decide)
  rw [(hS.2.1 r h1).2]
  have := clsT_s (p := fun r => tLN.getD r 0 == 2000) (c := 20) (by decide +kernel) (by decide) h
  exact beq_iff_eq.mp this
theorem nl_20 {r : Nat} (h : cls r = 20) : nln r = 2000 := beq_iff_eq.mp (clsT_s (p := fun r => nln r == 2000) (c := 20) (by decide +kernel) (by decide) h)
theorem kd_21 {g : Gs} (hS : Shp g) {r : Nat} (h : cls r = 21) : chk g r 102 := by
  have h1 := cls_lt h (by decide)
  refine ⟨by rw [hS.1]; exact h1, ?_⟩
  rw [(hS.2.1 r h1).1]
  have := clsT_s (p := fun r => tKD.getD r 0 == 102) (c := 21) (by decide +kernel) (by decide) h
  exact beq_iff_eq.mp this
theorem ln_21 {g : Gs} (hS : Shp g) {r : Nat} (h : cls r = 21) : gL g r = 401 := by
  have h1 := cls_lt h (by decide)
  rw [(hS.2.1 r h1).2]
  have := clsT_s (p := fun r => tLN.getD r 0 == 401) (c := 21) (by decide +kernel) (by decide) h
  exact beq_iff_eq.mp this
theorem nl_21 {r : Nat} (h : cls r = 21) : nln r = 401 := beq_iff_eq.mp (clsT_s (p := fun r => nln r == 401) (c := 21) (by decide +kernel) (by decide) h)
theorem kd_22 {g : Gs} (hS : Shp g) {r : Nat} (h : cls r = 22) : chk g r 102 := by
  have h1 := cls_lt h (by decide)
  refine ⟨by rw [hS.1]; exact h1, ?_⟩
  rw [(hS.2.1 r h1).1]
  have := clsT_s (p := fun r => tKD.getD r 0 == 102) (c := 22) (by decide +kernel) (by decide) h
  exact beq_iff_eq.mp this
theorem ln_22 {g : Gs} (hS : Shp g) {r : Nat} (h : cls r = 22) : gL g r = 401 := by
  have h1 := cls_lt h (by decide)
  rw [(hS.2.1 r h1).2]
  have := clsT_s (p := fun r => tLN.getD r 0 == 401) (c := 22) (by decide +kernel) (by decide) h
  exact beq_iff_eq.mp this
theorem nl_22 {r : Nat} (h : cls r = 22) : nln r = 401 := beq_iff_eq.mp (clsT_s (p := fun r => nln r == 401) (c := 22) (by decide +kernel) (by decide) h)
theorem kd_23 {g : Gs} (hS : Shp g) {r : Nat} (h : cls r = 23) : chk g r 102 := by
  have h1 := cls_lt h (by decide)
  refine ⟨by rw [hS.1]; exact h1, ?_⟩
  rw [(hS.2.1 r h1).1]
  have := clsT_s (p := fun r => tKD.getD r 0 == 102) (c := 23) (by decide +kernel) (by decide) h
  exact beq_iff_eq.mp this
theorem ln_23 {g : Gs} (hS : Shp g) {r : Nat} (h : cls r = 23) : gL g r = 401 := by
  have h1 := cls_lt h (by decide)
  rw [(hS.2.1 r h1).2]
  have := clsT_s (p := fun r => tLN.getD r 0 == 401) (c := 23) (by decide +kernel) (by decide) h
  exact beq_iff_eq.mp this
theorem nl_23 {r : Nat} (h : cls r = 23) : nln r = 401 := beq_iff_eq.mp (clsT_s (p := fun r => nln r == 401) (c := 23) (by decide +kernel) (by decide) h)
theorem kd_24 {g : Gs} (hS : Shp g) {r : Nat} (h : cls r = 24) : chk g r 107 := by
  have h1 := cls_lt h (by decide)
  refine ⟨by rw [hS.1]; exact h1, ?_⟩
  rw [(hS.2.1 r h1).1]
  have := clsT_s (p := fun r => tKD.getD r 0 == 107) (c := 24) (by decide +kernel) (by decide) h
  exact beq_iff_eq.mp this
theorem ln_24 {g : Gs} (hS : Shp g) {r : Nat} (h : cls r = 24) : gL g r = 401 := by
  have h1 := cls_lt h (by decide)
  rw [(hS.2.1 r h1).2]
  have := clsT_s (p := fun r => tLN.getD r 0 == 401) (c := 24) (by decide +kernel) (by decide) h
  exact beq_iff_eq.mp this
theorem nl_24 {r : Nat} (h : cls r = 24) : nln r = 401 := beq_iff_eq.mp (clsT_s (p := fun r => nln r == 401) (c := 24) (by decide +kernel) (by decide) h)
theorem kd_25 {g : Gs} (hS : Shp g) {r : Nat} (h : cls r = 25) : chk g r 105 := by
  have h1 := cls_lt h (by decide)
  refine ⟨by rw [hS.1]; exact h1, ?_⟩
  rw [(hS.2.1 r h1).1]
  have := clsT_s (p := fun r => tKD.getD r 0 == 105) (c := 25) (by decide +kernel) (by decide) h
  exact beq_iff_eq.mp this
theorem ln_25 {g : Gs} (hS : Shp g) {r : Nat} (h : cls r = 25) : gL g r = 96 := by
  have h1 := cls_lt h (by decide)
  rw [(hS.2.1 r h1).2]
  have := clsT_s (p := fun r => tLN.getD r 0 == 96) (c := 25) (by decide +kernel) (by decide) h
  exact beq_iff_eq.mp this
theorem nl_25 {r : Nat} (h : cls r = 25) : nln r = 96 := beq_iff_eq.mp (clsT_s (p := fun r => nln r == 96) (c := 25) (by decide +kernel) (by decide) h)
theorem kd_26 {g : Gs} (hS : Shp g) {r : Nat} (h : cls r = 26) : chk g r 102 := by
  have h1 := cls_lt h (by decide)
  refine ⟨by rw [hS.1]; exact h1, ?_⟩
  rw [(hS.2.1 r h1).1]
  have := clsT_s (p := fun r => tKD.getD r 0 == 102) (c := 26) (by decide +kernel) (by decide) h
  exact beq_iff_eq.mp this
theorem ln_26 {g : Gs} (hS : Shp g) {r : Nat} (h : cls r = 26) : gL g r = 4 := by
  have h1 := cls_lt h (by decide)
  rw [(hS.2.1 r h1).2]
  have := clsT_s (p := fun r => tLN.getD r 0 == 4) (c := 26) (by decide +kernel) (by decide) h
  exact beq_iff_eq.mp this
theorem nl_26 {r : Nat} (h : cls r = 26) : nln r = 4 := beq_iff_eq.mp (clsT_s (p := fun r => nln r == 4) (c := 26) (by decide +kernel) (by decide) h)
theorem kd_27 {g : Gs} (hS : Shp g) {r : Nat} (h : cls r = 27) : chk g r 102 := by
  have h1 := cls_lt h (by decide)
  refine ⟨by rw [hS.1]; exact h1, ?_⟩
  rw [(hS.2.1 r h1).1]
  have := clsT_s (p := fun r => tKD.getD r 0 == 102) (c := 27) (by decide +kernel) (by decide) h
  exact beq_iff_eq.mp this
theorem ln_27 {g : Gs} (hS : Shp g) {r : Nat} (h : cls r = 27) : gL g r = 4 := by
  have h1 := cls_lt h (by decide)
  rw [(hS.2.1 r h1).2]
  have := clsT_s (p := fun r => tLN.getD r 0 == 4) (c := 27) (by decide +kernel) (by decide) h
  exact beq_iff_eq.mp this
theorem nl_27 {r : Nat} (h : cls r = 27) : nln r = 4 := beq_iff_eq.mp (clsT_s (p := fun r => nln r == 4) (c := 27) (by decide +kernel) (by decide) h)
theorem kd_28 {g : Gs} (hS : Shp g) {r : Nat} (h : cls r = 28) : chk g r 105 := by
  have h1 := cls_lt h (by decide)
  refine ⟨by rw [hS.1]; exact h1, ?_⟩
  rw [(hS.2.1 r h1).1]
  have := clsT_s (p := fun r => tKD.getD r 0 == 105) (c := 28) (by decide +kernel) (by decide) h
  exact beq_iff_eq.mp this
theorem ln_28 {g : Gs} (hS : Shp g) {r : Nat} (h : cls r = 28) : gL g r = 4 := by
  have h1 := cls_lt h (by decide)
  rw [(hS.2.1 r h1).2]
  have := clsT_s (p := fun r => tLN.getD r 0 == 4) (c := 28) (by decide +kernel) (by decide) h
  exact beq_iff_eq.mp this
theorem nl_28 {r : Nat} (h : cls r = 28) : nln r = 4 := beq_iff_eq.mp (clsT_s (p := fun r => nln r == 4) (c := 28) (by decide +kernel) (by decide) h)
theorem kd_29 {g : Gs} (hS : Shp g) {r : Nat} (h : cls r = 29) : chk g r 102 := by
  have h1 := cls_lt h (by decide)
  refine ⟨by rw [hS.1]; exact h1, ?_⟩
  rw [(hS.2.1 r h1).1]
  have := clsT_s (p := fun r => tKD.getD r 0 == 102) (c := 29) (by decide +kernel) (by decide) h
  exact beq_iff_eq.mp this
theorem ln_29 {g : Gs} (hS : Shp g) {r : Nat} (h : cls r = 29) : gL g r = 4 := by
  have h1 := cls_lt h (by decide)
  rw [(hS.2.1 r h1).2]
  have := clsT_s (p := fun r => tLN.getD r 0 == 4) (c := 29) (by decide +kernel) (by decide) h
  exact beq_iff_eq.mp this
theorem nl_29 {r : Nat} (h : cls r = 29) : nln r = 4 := beq_iff_eq.mp (clsT_s (p := fun r => nln r == 4) (c := 29) (by decide +kernel) (by decide) h)
theorem kd_30 {g : Gs} (hS : Shp g) {r : Nat} (h : cls r = 30) : chk g r 102 := by
  have h1 := cls_lt h (by decide)
  refine ⟨by rw [hS.1]; exact h1, ?_⟩
  rw [(hS.2.1 r h1).1]
  have := clsT_s (p := fun r => tKD.getD r 0 == 102) (c := 30) (by decide +kernel) (by decide) h
  exact beq_iff_eq.mp this
theorem ln_30 {g : Gs} (hS : Shp g) {r : Nat} (h : cls r = 30) : gL g r = 32 := by
  have h1 := cls_lt h (by decide)
  rw [(hS.2.1 r h1).2]
  have := clsT_s (p := fun r => tLN.getD r 0 == 32) (c := 30) (by decide +kernel) (by decide) h
  exact beq_iff_eq.mp this
theorem nl_30 {r : Nat} (h : cls r = 30) : nln r = 32 := beq_iff_eq.mp (clsT_s (p := fun r => nln r == 32) (c := 30) (by decide +kernel) (by decide) h)
theorem kd_31 {g : Gs} (hS : Shp g) {r : Nat} (h : cls r = 31) : chk g r 102 := by
  have h1 := cls_lt h (by decide)
  refine ⟨by rw [hS.1]; exact h1, ?_⟩
  rw [(hS.2.1 r h1).1]
  have := clsT_s (p := fun r => tKD.getD r 0 == 102) (c := 31) (by decide +kernel) (by decide) h
  exact beq_iff_eq.mp this
theorem ln_31 {g : Gs} (hS : Shp g) {r : Nat} (h : cls r = 31) : gL g r = 10 := by
  have h1 := cls_lt h (by decide)
  rw [(hS.2.1 r h1).2]
  have := clsT_s (p := fun r => tLN.getD r 0 == 10) (c := 31) (by decide +kernel) (by decide) h
  exact beq_iff_eq.mp this
theorem nl_31 {r : Nat} (h : cls r = 31) : nln r = 10 := beq_iff_eq.mp (clsT_s (p := fun r => nln r == 10) (c := 31) (by decide +kernel) (by decide) h)
theorem kd_32 {g : Gs} (hS : Shp g) {r : Nat} (h : cls r = 32) : chk g r 102 := by
  have h1 := cls_lt h (by decide)
  refine ⟨by rw [hS.1]; exact h1, ?_⟩
  rw [(hS.2.1 r h1).1]
  have := clsT_s (p := fun r => tKD.getD r 0 == 102) (c := 32) (by decide +kernel) (by decide) h
  exact beq_iff_eq.mp this
theorem ln_32 {g : Gs} (hS : Shp g) {r : Nat} (h : cls r = 32) : gL g r = 24 := by
  have h1 := cls_lt h (by decide)
  rw [(hS.2.1 r h1).2]
  have := clsT_s (p := fun r => tLN.getD r 0 == 24) (c := 32) (by decide +kernel) (by decide) h
  exact beq_iff_eq.mp this
theorem nl_32 {r : Nat} (h : cls r = 32) : nln r = 24 := beq_iff_eq.mp (clsT_s (p := fun r => nln r == 24) (c := 32) (by decide +kernel) (by decide) h)
theorem kd_33 {g : Gs} (hS : Shp g) {r : Nat} (h : cls r = 33) : chk g r 101 := by
  have h1 := cls_lt h (by decide)
  refine ⟨by rw [hS.1]; exact h1, ?_⟩
  rw [(hS.2.1 r h1).1]
  have := clsT_s (p := fun r => tKD.getD r 0 == 101) (c := 33) (by decide +kernel) (by decide) h
  exact beq_iff_eq.mp this
theorem ln_33 {g : Gs} (hS : Shp g) {r : Nat} (h : cls r = 33) : gL g r = 24 := by
  have h1 := cls_lt h (by decide)
  rw [(hS.2.1 r h1).2]
  have := clsT_s (p := fun r => tLN.getD r 0 == 24) (c := 33) (by decide +kernel) (by decide) h
  exact beq_iff_eq.mp this
theorem nl_33 {r : Nat} (h : cls r = 33) : nln r = 24 := beq_iff_eq.mp (clsT_s (p := fun r => nln r == 24) (c := 33) (by decide +kernel) (by decide) h)
theorem kd_34 {g : Gs} (hS : Shp g) {r : Nat} (h : cls r = 34) : chk g r 102 := by
  have h1 := cls_lt h (by decide)
  refine ⟨by rw [hS.1]; exact h1, ?_⟩
  rw [(hS.2.1 r h1).1]
  have := clsT_s (p := fun r => tKD.getD r 0 == 102) (c := 34) (by decide +kernel) (by decide) h
  exact beq_iff_eq.mp this
theorem ln_34 {g : Gs} (hS : Shp g) {r : Nat} (h : cls r = 34) : gL g r = 24 := by
  have h1 := cls_lt h (by decide)
  rw [(hS.2.1 r h1).2]
  have := clsT_s (p := fun r => tLN.getD r 0 == 24) (c := 34) (by decide +kernel) (by decide) h
  exact beq_iff_eq.mp this
theorem nl_34 {r : Nat} (h : cls r = 34) : nln r = 24 := beq_iff_eq.mp (clsT_s (p := fun r => nln r == 24) (c := 34) (by decide +kernel) (by decide) h)
theorem kd_35 {g : Gs} (hS : Shp g) {r : Nat} (h : cls r = 35) : chk g r 102 := by
  have h1 := cls_lt h (by decide)
  refine ⟨by rw [hS.1]; exact h1, ?_⟩
  rw [(hS.2.1 r h1).1]
  have := clsT_s (p := fun r => tKD.getD r 0 == 102) (c := 35) (by decide +kernel) (by decide) h
  exact beq_iff_eq.mp this
theorem ln_35 {g : Gs} (hS : Shp g) {r : Nat} (h : cls r = 35) : gL g r = 24 := by
  have h1 := cls_lt h (by decide)
  rw [(hS.2.1 r h1).2]
  have := clsT_s (p := fun r => tLN.getD r 0 == 24) (c := 35) (by decide +kernel) (by decide) h
  exact beq_iff_eq.mp this
theorem nl_35 {r : Nat} (h : cls r = 35) : nln r = 24 := beq_iff_eq.mp (clsT_s (p := fun r => nln r == 24) (c := 35) (by decide +kernel) (by decide) h)
theorem kd_36 {g : Gs} (hS : Shp g) {r : Nat} (h : cls r = 36) : chk g r 102 := by
  have h1 := cls_lt h (by decide)
  refine ⟨by rw [hS.1]; exact h1, ?_⟩
  rw [(hS.2.1 r h1).1]
  have := clsT_s (p := fun r => tKD.getD r 0 == 102) (c := 36) (by decide +kernel) (by decide) h
  exact beq_iff_eq.mp this
theorem ln_36 {g : Gs} (hS : Shp g) {r : Nat} (h : cls r = 36) : gL g r = 24 := by
  have h1 := cls_lt h (by decide)
  rw [(hS.2.1 r h1).2]
  have := clsT_s (p := fun r => tLN.getD r 0 == 24) (c := 36) (by decide +kernel) (by decide) h
  exact beq_iff_eq.mp this
theorem nl_36 {r : Nat} (h : cls r = 36) : nln r = 24 := beq_iff_eq.mp (clsT_s (p := fun r => nln r == 24) (c := 36) (by decide +kernel) (by decide) h)
theorem kd_37 {g : Gs} (hS : Shp g) {r : Nat} (h : cls r = 37) : chk g r 102 := by
  have h1 := cls_lt h (by decide)
  refine ⟨by rw [hS.1]; exact h1, ?_⟩
  rw [(hS.2.1 r h1).1]
  have := clsT_s (p := fun r => tKD.getD r 0 == 102) (c := 37) (by decide +kernel) (by decide) h
  exact beq_iff_eq.mp this
theorem ln_37 {g : Gs} (hS : Shp g) {r : Nat} (h : cls r = 37) : gL g r = 2400 := by
  have h1 := cls_lt h (by decide)
  rw [(hS.2.1 r h1).2]
  have := clsT_s (p := fun r => tLN.getD r 0 == 2400) (c := 37) (by decide +kernel) (by decide) h
  exact beq_iff_eq.mp this
theorem nl_37 {r : Nat} (h : cls r = 37) : nln r = 2400 := beq_iff_eq.mp (clsT_s (p := fun r => nln r == 2400) (c := 37) (by decide +kernel) (by decide) h)
theorem kd_38 {g : Gs} (hS : Shp g) {r : Nat} (h : cls r = 38) : chk g r 102 := by
  have h1 := cls_lt h (by decide)
  refine ⟨by rw [hS.1]; exact h1, ?_⟩
  rw [(hS.2.1 r h1).1]
  have := clsT_s (p := fun r => tKD.getD r 0 == 102) (c := 38) (by decide +kernel) (by decide) h
  exact beq_iff_eq.mp this
theorem ln_38 {g : Gs} (hS : Shp g) {r : Nat} (h : cls r = 38) : gL g r = 24 := by
  have h1 := cls_lt h (by decide)
  rw [(hS.2.1 r h1).2]
  have := clsT_s (p := fun r => tLN.getD r 0 == 24) (c := 38) (by decide +kernel) (by decide) h
  exact beq_iff_eq.mp this
theorem nl_38 {r : Nat} (h : cls r = 38) : nln r = 24 := beq_iff_eq.mp (clsT_s (p := fun r => nln r == 24) (c := 38) (by decide +kernel) (by decide) h)
theorem kd_39 {g : Gs} (hS : Shp g) {r : Nat} (h : cls r = 39) : chk g r 102 := by
  have h1 := cls_lt h (by decide)
  refine ⟨by rw [hS.1]; exact h1, ?_⟩
  rw [(hS.2.1 r h1).1]
  have := clsT_s (p := fun r => tKD.getD r 0 == 102) (c := 39) (by decide +kernel) (by decide) h
  exact beq_iff_eq.mp this
theorem ln_39 {g : Gs} (hS : Shp g) {r : Nat} (h : cls r = 39) : gL g r = 24 := by
  have h1 := cls_lt h (by decide)
  rw [(hS.2.1 r h1).2]
  have := clsT_s (p := fun r => tLN.getD r 0 == 24) (c := 39) (by decide +kernel) (by decide) h
  exact beq_iff_eq.mp this
theorem nl_39 {r : Nat} (h : cls r = 39) : nln r = 24 := beq_iff_eq.mp (clsT_s (p := fun r => nln r == 24) (c := 39) (by decide +kernel) (by decide) h)
theorem kd_40 {g : Gs} (hS : Shp g) {r : Nat} (h : cls r = 40) : chk g r 102 := by
  have h1 := cls_lt h (by decide)
  refine ⟨by rw [hS.1]; exact h1, ?_⟩
  rw [(hS.2.1 r h1).1]
  have := clsT_s (p := fun r => tKD.getD r 0 == 102) (c := 40) (by decide +kernel) (by decide) h
  exact beq_iff_eq.mp this
theorem ln_40 {g : Gs} (hS : Shp g) {r : Nat} (h : cls r = 40) : gL g r = 24 := by
  have h1 := cls_lt h (by decide)
  rw [(hS.2.1 r h1).2]
  have := clsT_s (p := fun r => tLN.getD r 0 == 24) (c := 40) (by decide +kernel) (by decide) h
  exact beq_iff_eq.mp this
theorem nl_40 {r : Nat} (h : cls r = 40) : nln r = 24 := beq_iff_eq.mp (clsT_s (p := fun r => nln r == 24) (c := 40) (by decide +kernel) (by decide) h)
theorem kd_41 {g : Gs} (hS : Shp g) {r : Nat} (h : cls r = 41) : chk g r 102 := by
  have h1 := cls_lt h (by decide)
  refine ⟨by rw [hS.1]; exact h1, ?_⟩
  rw [(hS.2.1 r h1).1]
  have := clsT_s (p := fun r => tKD.getD r 0 == 102) (c := 41) (by decide +kernel) (by decide) h
  exact beq_iff_eq.mp this
theorem ln_41 {g : Gs} (hS : Shp g) {r : Nat} (h : cls r = 41) : gL g r = 24 := by
  have h1 := cls_lt h (by decide)
  rw [(hS.2.1 r h1).2]
  have := clsT_s (p := fun r => tLN.getD r 0 == 24) (c := 41) (by decide +kernel) (by decide) h
  exact beq_iff_eq.mp this
theorem nl_41 {r : Nat} (h : cls r = 41) : nln r = 24 := beq_iff_eq.mp (clsT_s (p := fun r => nln r == 24) (c := 41) (by decide +kernel) (by decide) h)
theorem kd_42 {g : Gs} (hS : Shp g) {r : Nat} (h : cls r = 42) : chk g r 102 := by
  have h1 := cls_lt h (by decide)
  refine ⟨by rw [hS.1]; exact h1, ?_⟩
  rw [(hS.2.1 r h1).1]
  have := clsT_s (p := fun r => tKD.getD r 0 == 102) (c := 42) (by decide +kernel) (by decide) h
  exact beq_iff_eq.mp this
theorem ln_42 {g : Gs} (hS : Shp g) {r : Nat} (h : cls r = 42) : gL g r = 25 := by
  have h1 := cls_lt h (by decide)
  rw [(hS.2.1 r h1).2]
  have := clsT_s (p := fun r => tLN.getD r 0 == 25) (c := 42) (by decide +kernel) (by decide) h
  exact beq_iff_eq.mp this
theorem nl_42 {r : Nat} (h : cls r = 42) : nln r = 25 := beq_iff_eq.mp (clsT_s (p := fun r => nln r == 25) (c := 42) (by decide +kernel) (by decide) h)
theorem kd_43 {g : Gs} (hS : Shp g) {r : Nat} (h : cls r = 43) : chk g r 102 := by
  have h1 := cls_lt h (by decide)
  refine ⟨by rw [hS.1]; exact h1, ?_⟩
  rw [(hS.2.1 r h1).1]
  have := clsT_s (p := fun r => tKD.getD r 0 == 102) (c := 43) (by decide +kernel) (by decide) h
  exact beq_iff_eq.mp this
theorem ln_43 {g : Gs} (hS : Shp g) {r : Nat} (h : cls r = 43) : gL g r = 40 := by
  have h1 := cls_lt h (by decide)
  rw [(hS.2.1 r h1).2]
  have := clsT_s (p := fun r => tLN.getD r 0 == 40) (c := 43) (by decide +kernel) (by decide) h
  exact beq_iff_eq.mp this
theorem nl_43 {r : Nat} (h : cls r = 43) : nln r = 40 := beq_iff_eq.mp (clsT_s (p := fun r => nln r == 40) (c := 43) (by decide +kernel) (by decide) h)
theorem kd_44 {g : Gs} (hS : Shp g) {r : Nat} (h : cls r = 44) : chk g r 102 := by
  have h1 := cls_lt h (by decide)
  refine ⟨by rw [hS.1]; exact h1, ?_⟩
  rw [(hS.2.1 r h1).1]
  have := clsT_s (p := fun r => tKD.getD r 0 == 102) (c := 44) (by decide +kernel) (by decide) h
  exact beq_iff_eq.mp this
theorem ln_44 {g : Gs} (hS : Shp g) {r : Nat} (h : cls r = 44) : gL g r = 40 := by
  have h1 := cls_lt h (by decide)
  rw [(hS.2.1 r h1).2]
  have := clsT_s (p := fun r => tLN.getD r 0 == 40) (c := 44) (by decide +kernel) (by decide) h
  exact beq_iff_eq.mp this
theorem nl_44 {r : Nat} (h : cls r = 44) : nln r = 40 := beq_iff_eq.mp (clsT_s (p := fun r => nln r == 40) (c := 44) (by decide +kernel) (by decide) h)
theorem kd_45 {g : Gs} (hS : Shp g) {r : Nat} (h : cls r = 45) : chk g r 102 := by
  have h1 := cls_lt h (by decide)
  refine ⟨by rw [hS.1]; exact h1, ?_⟩
  rw [(hS.2.1 r h1).1]
  have := clsT_s (p := fun r => tKD.getD r 0 == 102) (c := 45) (by decide +kernel) (by decide) h
  exact beq_iff_eq.mp this
theorem ln_45 {g : Gs} (hS : Shp g) {r : Nat} (h : cls r = 45) : gL g r = 40 := by
  have h1 := cls_lt h (by decide)
  rw [(hS.2.1 r h1).2]
  have := clsT_s (p := fun r => tLN.getD r 0 == 40) (c := 45) (by decide +kernel) (by decide) h
  exact beq_iff_eq.mp this
theorem nl_45 {r : Nat} (h : cls r = 45) : nln r = 40 := beq_iff_eq.mp (clsT_s (p := fun r => nln r == 40) (c := 45) (by decide +kernel) (by decide) h)
theorem kd_46 {g : Gs} (hS : Shp g) {r : Nat} (h : cls r = 46) : chk g r 102 := by
  have h1 := cls_lt h (by decide)
  refine ⟨by rw [hS.1]; exact h1, ?_⟩
  rw [(hS.2.1 r h1).1]
  have := clsT_s (p := fun r => tKD.getD r 0 == 102) (c := 46) (by decide +kernel) (by decide) h
  exact beq_iff_eq.mp this
theorem ln_46 {g : Gs} (hS : Shp g) {r : Nat} (h : cls r = 46) : gL g r = 1000 := by
  have h1 := cls_lt h (by decide)
  rw [(hS.2.1 r h1).2]
  have := clsT_s (p := fun r => tLN.getD r 0 == 1000) (c := 46) (by decide +kernel) (by decide) h
  exact beq_iff_eq.mp this
theorem nl_46 {r : Nat} (h : cls r = 46) : nln r = 1000 := beq_iff_eq.mp (clsT_s (p := fun r => nln r == 1000) (c := 46) (by decide +kernel) (by decide) h)
theorem kd_47 {g : Gs} (hS : Shp g) {r : Nat} (h : cls r = 47) : chk g r 106 := by
  have h1 := cls_lt h (by decide)
  refine ⟨by rw [hS.1]; exact h1, ?_⟩
  rw [(hS.2.1 r h1).1]
  have := clsT_s (p := fun r => tKD.getD r 0 == 106) (c := 47) (by decide +kernel) (by decide) h
  exact beq_iff_eq.mp this
theorem ln_47 {g : Gs} (hS : Shp g) {r : Nat} (h : cls r = 47) : gL g r = 3 := by
  have h1 := cls_lt h (by decide)
  rw [(hS.2.1 r h1).2]
  have := clsT_s (p := fun r => tLN.getD r 0 == 3) (c := 47) (by decide +kernel) (by decide) h
  exact beq_iff_eq.mp this
theorem nl_47 {r : Nat} (h : cls r = 47) : nln r = 3 := beq_iff_eq.mp (clsT_s (p := fun r => nln r == 3) (c := 47) (by decide +kernel) (by decide) h)
theorem kd_48 {g : Gs} (hS : Shp g) {r : Nat} (h : cls r = 48) : chk g r 100 := by
  have h1 := cls_lt h (by decide)
  refine ⟨by rw [hS.1]; exact h1, ?_⟩
  rw [(hS.2.1 r h1).1]
  have := clsT_s (p := fun r => tKD.getD r 0 == 100) (c := 48) (by decide +kernel) (by decide) h
  exact beq_iff_eq.mp this
theorem ln_48 {g : Gs} (hS : Shp g) {r : Nat} (h : cls r = 48) : gL g r = 2000 := by
  have h1 := cls_lt h (by decide)
  rw [(hS.2.1 r h1).2]
  have := clsT_s (p := fun r => tLN.getD r 0 == 2000) (c := 48) (by decide +kernel) (by decide) h
  exact beq_iff_eq.mp this
theorem nl_48 {r : Nat} (h : cls r = 48) : nln r = 2000 := beq_iff_eq.mp (clsT_s (p := fun r => nln r == 2000) (c := 48) (by decide +kernel) (by decide) h)
theorem kd_49 {g : Gs} (hS : Shp g) {r : Nat} (h : cls r = 49) : chk g r 100 := by
  have h1 := cls_lt h (by decide)
  refine ⟨by rw [hS.1]; exact h1, ?_⟩
  rw [(hS.2.1 r h1).1]
  have := clsT_s (p := fun r => tKD.getD r 0 == 100) (c := 49) (by decide +kernel) (by decide) h
  exact beq_iff_eq.mp this
theorem ln_49 {g : Gs} (hS : Shp g) {r : Nat} (h : cls r = 49) : gL g r = 2000 := by
  have h1 := cls_lt h (by decide)
  rw [(hS.2.1 r h1).2]
  have := clsT_s (p := fun r => tLN.getD r 0 == 2000) (c := 49) (by decide +kernel) (by decide) h
  exact beq_iff_eq.mp this
theorem nl_49 {r : Nat} (h : cls r = 49) : nln r = 2000 := beq_iff_eq.mp (clsT_s (p := fun r => nln r == 2000) (c := 49) (by decide +kernel) (by decide) h)
theorem kd_50 {g : Gs} (hS : Shp g) {r : Nat} (h : cls r = 50) : chk g r 102 := by
  have h1 := cls_lt h (by decide)
  refine ⟨by rw [hS.1]; exact h1, ?_⟩
  rw [(hS.2.1 r h1).1]
  have := clsT_s (p := fun r => tKD.getD r 0 == 102) (c := 50) (by decide +kernel) (by decide) h
  exact beq_iff_eq.mp this
theorem ln_50 {g : Gs} (hS : Shp g) {r : Nat} (h : cls r = 50) : gL g r = 403 := by
  have h1 := cls_lt h (by decide)
  rw [(hS.2.1 r h1).2]
  have := clsT_s (p := fun r => tLN.getD r 0 == 403) (c := 50) (by decide +kernel) (by decide) h
  exact beq_iff_eq.mp this
theorem nl_50 {r : Nat} (h : cls r = 50) : nln r = 403 := beq_iff_eq.mp (clsT_s (p := fun r => nln r == 403) (c := 50) (by decide +kernel) (by decide) h)
theorem kd_51 {g : Gs} (hS : Shp g) {r : Nat} (h : cls r = 51) : chk g r 102 := by
  have h1 := cls_lt h (by decide)
  refine ⟨by rw [hS.1]; exact h1, ?_⟩
  rw [(hS.2.1 r h1).1]
  have := clsT_s (p := fun r => tKD.getD r 0 == 102) (c := 51) (by decide +kernel) (by decide) h
  exact beq_iff_eq.mp this
theorem ln_51 {g : Gs} (hS : Shp g) {r : Nat} (h : cls r = 51) : gL g r = 403 := by
  have h1 := cls_lt h (by decide)
  rw [(hS.2.1 r h1).2]
  have := clsT_s (p := fun r => tLN.getD r 0 == 403) (c := 51) (by decide +kernel) (by decide) h
  exact beq_iff_eq.mp this
theorem nl_51 {r : Nat} (h : cls r = 51) : nln r = 403 := beq_iff_eq.mp (clsT_s (p := fun r => nln r == 403) (c := 51) (by decide +kernel) (by decide) h)
theorem kd_52 {g : Gs} (hS : Shp g) {r : Nat} (h : cls r = 52) : chk g r 102 := by
  have h1 := cls_lt h (by decide)
  refine ⟨by rw [hS.1]; exact h1, ?_⟩
  rw [(hS.2.1 r h1).1]
  have := clsT_s (p := fun r => tKD.getD r 0 == 102) (c := 52) (by decide +kernel) (by decide) h
  exact beq_iff_eq.mp this
theorem ln_52 {g : Gs} (hS : Shp g) {r : Nat} (h : cls r = 52) : gL g r = 403 := by
  have h1 := cls_lt h (by decide)
  rw [(hS.2.1 r h1).2]
  have := clsT_s (p := fun r => tLN.getD r 0 == 403) (c := 52) (by decide +kernel) (by decide) h
  exact beq_iff_eq.mp this
theorem nl_52 {r : Nat} (h : cls r = 52) : nln r = 403 := beq_iff_eq.mp (clsT_s (p := fun r => nln r == 403) (c := 52) (by decide +kernel) (by decide) h)
theorem kd_53 {g : Gs} (hS : Shp g) {r : Nat} (h : cls r = 53) : chk g r 103 := by
  have h1 := cls_lt h (by decide)
  refine ⟨by rw [hS.1]; exact h1, ?_⟩
  rw [(hS.2.1 r h1).1]
  have := clsT_s (p := fun r => tKD.getD r 0 == 103) (c := 53) (by decide +kernel) (by decide) h
  exact beq_iff_eq.mp this
theorem ln_53 {g : Gs} (hS : Shp g) {r : Nat} (h : cls r = 53) : gL g r = 403 := by
  have h1 := cls_lt h (by decide)
  rw [(hS.2.1 r h1).2]
  have := clsT_s (p := fun r => tLN.getD r 0 == 403) (c := 53) (by decide +kernel) (by decide) h
  exact beq_iff_eq.mp this
theorem nl_53 {r : Nat} (h : cls r = 53) : nln r = 403 := beq_iff_eq.mp (clsT_s (p := fun r => nln r == 403) (c := 53) (by decide +kernel) (by decide) h)
theorem kd_54 {g : Gs} (hS : Shp g) {r : Nat} (h : cls r = 54) : chk g r 103 := by
  have h1 := cls_lt h (by decide)
  refine ⟨by rw [hS.1]; exact h1, ?_⟩
  rw [(hS.2.1 r h1).1]
  have := clsT_s (p := fun r => tKD.getD r 0 == 103) (c := 54) (by decide +kernel) (by decide) h
  exact beq_iff_eq.mp this
theorem ln_54 {g : Gs} (hS : Shp g) {r : Nat} (h : cls r = 54) : gL g r = 20 := by
  have h1 := cls_lt h (by decide)
  rw [(hS.2.1 r h1).2]
  have := clsT_s (p := fun r => tLN.getD r 0 == 20) (c := 54) (by decide +kernel) (by decide) h
  exact beq_iff_eq.mp this
theorem nl_54 {r : Nat} (h : cls r = 54) : nln r = 20 := beq_iff_eq.mp (clsT_s (p := fun r => nln r == 20) (c := 54) (by decide +kernel) (by decide) h)
theorem kd_55 {g : Gs} (hS : Shp g) {r : Nat} (h : cls r = 55) : chk g r 102 := by
  have h1 := cls_lt h (by decide)
  refine ⟨by rw [hS.1]; exact h1, ?_⟩
  rw [(hS.2.1 r h1).1]
  have := clsT_s (p := fun r => tKD.getD r 0 == 102) (c := 55) (by decide +kernel) (by decide) h
  exact beq_iff_eq.mp this
theorem ln_55 {g : Gs} (hS : Shp g) {r : Nat} (h : cls r = 55) : gL g r = 9178 := by
  have h1 := cls_lt h (by decide)
  rw [(hS.2.1 r h1).2]
  have := clsT_s (p := fun r => tLN.getD r 0 == 9178) (c := 55) (by decide +kernel) (by decide) h
  exact beq_iff_eq.mp this
theorem nl_55 {r : Nat} (h : cls r = 55) : nln r = 9178 := beq_iff_eq.mp (clsT_s (p := fun r => nln r == 9178) (c := 55) (by decide +kernel) (by decide) h)
theorem kd_56 {g : Gs} (hS : Shp g) {r : Nat} (h : cls r = 56) : chk g r 102 := by
  have h1 := cls_lt h (by decide)
  refine ⟨by rw [hS.1]; exact h1, ?_⟩
  rw [(hS.2.1 r h1).1]
  have := clsT_s (p := fun r => tKD.getD r 0 == 102) (c := 56) (by decide +kernel) (by decide) h
  exact beq_iff_eq.mp this
theorem ln_56 {g : Gs} (hS : Shp g) {r : Nat} (h : cls r = 56) : gL g r = 352 := by
  have h1 := cls_lt h (by decide)
  rw [(hS.2.1 r h1).2]
  have := clsT_s (p := fun r => tLN.getD r 0 == 352) (c := 56) (by decide +kernel) (by decide) h
  exact beq_iff_eq.mp this
theorem nl_56 {r : Nat} (h : cls r = 56) : nln r = 352 := beq_iff_eq.mp (clsT_s (p := fun r => nln r == 352) (c := 56) (by decide +kernel) (by decide) h)
theorem kd_57 {g : Gs} (hS : Shp g) {r : Nat} (h : cls r = 57) : chk g r 101 := by
  have h1 := cls_lt h (by decide)
  refine ⟨by rw [hS.1]; exact h1, ?_⟩
  rw [(hS.2.1 r h1).1]
  have := clsT_s (p := fun r => tKD.getD r 0 == 101) (c := 57) (by decide +kernel) (by decide) h
  exact beq_iff_eq.mp this
theorem ln_57 {g : Gs} (hS : Shp g) {r : Nat} (h : cls r = 57) : gL g r = 24 := by
  have h1 := cls_lt h (by decide)
  rw [(hS.2.1 r h1).2]
  have := clsT_s (p := fun r => tLN.getD r 0 == 24) (c := 57) (by decide +kernel) (by decide) h
  exact beq_iff_eq.mp this
theorem nl_57 {r : Nat} (h : cls r = 57) : nln r = 24 := beq_iff_eq.mp (clsT_s (p := fun r => nln r == 24) (c := 57) (by decide +kernel) (by decide) h)
theorem kd_58 {g : Gs} (hS : Shp g) {r : Nat} (h : cls r = 58) : chk g r 102 := by
  have h1 := cls_lt h (by decide)
  refine ⟨by rw [hS.1]; exact h1, ?_⟩
  rw [(hS.2.1 r h1).1]
  have := clsT_s (p := fun r => tKD.getD r 0 == 102) (c := 58) (by decide +kernel) (by decide) h
  exact beq_iff_eq.mp this
theorem ln_58 {g : Gs} (hS : Shp g) {r : Nat} (h : cls r = 58) : gL g r = 3 := by
  have h1 := cls_lt h (by decide)
  rw [(hS.2.1 r h1).2]
  have := clsT_s (p := fun r => tLN.getD r 0 == 3) (c := 58) (by decide +kernel) (by decide) h
  exact beq_iff_eq.mp this
theorem nl_58 {r : Nat} (h : cls r = 58) : nln r = 3 := beq_iff_eq.mp (clsT_s (p := fun r => nln r == 3) (c := 58) (by decide +kernel) (by decide) h)
theorem kd_59 {g : Gs} (hS : Shp g) {r : Nat} (h : cls r = 59) : chk g r 102 := by
  have h1 := cls_lt h (by decide)
  refine ⟨by rw [hS.1]; exact h1, ?_⟩
  rw [(hS.2.1 r h1).1]
  have := clsT_s (p := fun r => tKD.getD r 0 == 102) (c := 59) (by decide +kernel) (by decide) h
  exact beq_iff_eq.mp this
theorem ln_59 {g : Gs} (hS : Shp g) {r : Nat} (h : cls r = 59) : gL g r = 10 := by
  have h1 := cls_lt h (by decide)
  rw [(hS.2.1 r h1).2]
  have := clsT_s (p := fun r => tLN.getD r 0 == 10) (c := 59) (by decide +kernel) (by decide) h
  exact beq_iff_eq.mp this
theorem nl_59 {r : Nat} (h : cls r = 59) : nln r = 10 := beq_iff_eq.mp (clsT_s (p := fun r => nln r == 10) (c := 59) (by decide +kernel) (by decide) h)
theorem kd_60 {g : Gs} (hS : Shp g) {r : Nat} (h : cls r = 60) : chk g r 102 := by
  have h1 := cls_lt h (by decide)
  refine ⟨by rw [hS.1]; exact h1, ?_⟩
  rw [(hS.2.1 r h1).1]
  have := clsT_s (p := fun r => tKD.getD r 0 == 102) (c := 60) (by decide +kernel) (by decide) h
  exact beq_iff_eq.mp this
theorem ln_60 {g : Gs} (hS : Shp g) {r : Nat} (h : cls r = 60) : gL g r = 25 := by
  have h1 := cls_lt h (by decide)
  rw [(hS.2.1 r h1).2]
  have := clsT_s (p := fun r => tLN.getD r 0 == 25) (c := 60) (by decide +kernel) (by decide) h
  exact beq_iff_eq.mp this
theorem nl_60 {r : Nat} (h : cls r = 60) : nln r = 25 := beq_iff_eq.mp (clsT_s (p := fun r => nln r == 25) (c := 60) (by decide +kernel) (by decide) h)
theorem kd_61 {g : Gs} (hS : Shp g) {r : Nat} (h : cls r = 61) : chk g r 102 := by
  have h1 := cls_lt h (by decide)
  refine ⟨by rw [hS.1]; exact h1, ?_⟩
  rw [(hS.2.1 r h1).1]
  have := clsT_s (p := fun r => tKD.getD r 0 == 102) (c := 61) (by decide +kernel) (by decide) h
  exact beq_iff_eq.mp this
theorem ln_61 {g : Gs} (hS : Shp g) {r : Nat} (h : cls r = 61) : gL g r = 9178 := by
  have h1 := cls_lt h (by decide)
  rw [(hS.2.1 r h1).2]
  have := clsT_s (p := fun r => tLN.getD r 0 == 9178) (c := 61) (by decide +kernel) (by decide) h
  exact beq_iff_eq.mp this
theorem nl_61 {r : Nat} (h : cls r = 61) : nln r = 9178 := beq_iff_eq.mp (clsT_s (p := fun r => nln r == 9178) (c := 61) (by decide +kernel) (by decide) h)
theorem kd_62 {g : Gs} (hS : Shp g) {r : Nat} (h : cls r = 62) : chk g r 101 := by
  have h1 := cls_lt h (by decide)
  refine ⟨by rw [hS.1]; exact h1, ?_⟩
  rw [(hS.2.1 r h1).1]
  have := clsT_s (p := fun r => tKD.getD r 0 == 101) (c := 62) (by decide +kernel) (by decide) h
  exact beq_iff_eq.mp this
theorem ln_62 {g : Gs} (hS : Shp g) {r : Nat} (h : cls r = 62) : gL g r = 24 := by
  have h1 := cls_lt h (by decide)
  rw [(hS.2.1 r h1).2]
  have := clsT_s (p := fun r => tLN.getD r 0 == 24) (c := 62) (by decide +kernel) (by decide) h
  exact beq_iff_eq.mp this
theorem nl_62 {r : Nat} (h : cls r = 62) : nln r = 24 := beq_iff_eq.mp (clsT_s (p := fun r => nln r == 24) (c := 62) (by decide +kernel) (by decide) h)
theorem kd_63 {g : Gs} (hS : Shp g) {r : Nat} (h : cls r = 63) : chk g r 102 := by
  have h1 := cls_lt h (by decide)
  refine ⟨by rw [hS.1]; exact h1, ?_⟩
  rw [(hS.2.1 r h1).1]
  have := clsT_s (p := fun r => tKD.getD r 0 == 102) (c := 63) (by decide +kernel) (by decide) h
  exact beq_iff_eq.mp this
theorem ln_63 {g : Gs} (hS : Shp g) {r : Nat} (h : cls r = 63) : gL g r = 27534 := by
  have h1 := cls_lt h (by decide)
  rw [(hS.2.1 r h1).2]
  have := clsT_s (p := fun r => tLN.getD r 0 == 27534) (c := 63) (by decide +kernel) (by decide) h
  exact beq_iff_eq.mp this
theorem nl_63 {r : Nat} (h : cls r = 63) : nln r = 27534 := beq_iff_eq.mp (clsT_s (p := fun r => nln r == 27534) (c := 63) (by decide +kernel) (by decide) h)
theorem kd_64 {g : Gs} (hS : Shp g) {r : Nat} (h : cls r = 64) : chk g r 101 := by
  have h1 := cls_lt h (by decide)
  refine ⟨by rw [hS.1]; exact h1, ?_⟩
  rw [(hS.2.1 r h1).1]
  have := clsT_s (p := fun r => tKD.getD r 0 == 101) (c := 64) (by decide +kernel) (by decide) h
  exact beq_iff_eq.mp this
theorem ln_64 {g : Gs} (hS : Shp g) {r : Nat} (h : cls r = 64) : gL g r = 72 := by
  have h1 := cls_lt h (by decide)
  rw [(hS.2.1 r h1).2]
  have := clsT_s (p := fun r => tLN.getD r 0 == 72) (c := 64) (by decide +kernel) (by decide) h
  exact beq_iff_eq.mp this
theorem nl_64 {r : Nat} (h : cls r = 64) : nln r = 72 := beq_iff_eq.mp (clsT_s (p := fun r => nln r == 72) (c := 64) (by decide +kernel) (by decide) h)
theorem kd_65 {g : Gs} (hS : Shp g) {r : Nat} (h : cls r = 65) : chk g r 104 := by
  have h1 := cls_lt h (by decide)
  refine ⟨by rw [hS.1]; exact h1, ?_⟩
  rw [(hS.2.1 r h1).1]
  have := clsT_s (p := fun r => tKD.getD r 0 == 104) (c := 65) (by decide +kernel) (by decide) h
  exact beq_iff_eq.mp this
theorem ln_65 {g : Gs} (hS : Shp g) {r : Nat} (h : cls r = 65) : gL g r = 3 := by
  have h1 := cls_lt h (by decide)
  rw [(hS.2.1 r h1).2]
  have := clsT_s (p := fun r => tLN.getD r 0 == 3) (c := 65) (by decide +kernel) (by decide) h
  exact beq_iff_eq.mp this
theorem nl_65 {r : Nat} (h : cls r = 65) : nln r = 3 := beq_iff_eq.mp (clsT_s (p := fun r => nln r == 3) (c := 65) (by decide +kernel) (by decide) h)
theorem kd_66 {g : Gs} (hS : Shp g) {r : Nat} (h : cls r = 66) : chk g r 102 := by
  have h1 := cls_lt h (by decide)
  refine ⟨by rw [hS.1]; exact h1, ?_⟩
  rw [(hS.2.1 r h1).1]
  have := clsT_s (p := fun r => tKD.getD r 0 == 102) (c := 66) (by decide +kernel) (by decide) h
  exact beq_iff_eq.mp this
theorem ln_66 {g : Gs} (hS : Shp g) {r : Nat} (h : cls r = 66) : gL g r = 4 := by
  have h1 := cls_lt h (by decide)
  rw [(hS.2.1 r h1).2]
  have := clsT_s (p := fun r => tLN.getD r 0 == 4) (c := 66) (by decide +kernel) (by decide) h
  exact beq_iff_eq.mp this
theorem nl_66 {r : Nat} (h : cls r = 66) : nln r = 4 := beq_iff_eq.mp (clsT_s (p := fun r => nln r == 4) (c := 66) (by decide +kernel) (by decide) h)
theorem kd_67 {g : Gs} (hS : Shp g) {r : Nat} (h : cls r = 67) : chk g r 102 := by
  have h1 := cls_lt h (by decide)
  refine ⟨by rw [hS.1]; exact h1, ?_⟩
  rw [(hS.2.1 r h1).1]
  have := clsT_s (p := fun r => tKD.getD r 0 == 102) (c := 67) (by decide +kernel) (by decide) h
  exact beq_iff_eq.mp this
theorem ln_67 {g : Gs} (hS : Shp g) {r : Nat} (h : cls r = 67) : gL g r = 4 := by
  have h1 := cls_lt h (by decide)
  rw [(hS.2.1 r h1).2]
  have := clsT_s (p := fun r => tLN.getD r 0 == 4) (c := 67) (by decide +kernel) (by decide) h
  exact beq_iff_eq.mp this
theorem nl_67 {r : Nat} (h : cls r = 67) : nln r = 4 := beq_iff_eq.mp (clsT_s (p := fun r => nln r == 4) (c := 67) (by decide +kernel) (by decide) h)
theorem sh_0_10 {g : Gs} (hS : Shp g) {r : Nat} (h : cls r = 0) : ∃ e, gR g r 10 = some e ∧ cls e = 25 := by
  have h2 := clsT_s (p := fun r => rfr r 10 != 0 && (cls (rfr r 10 - 1) == 25)) (c := 0) (by decide +kernel) (by decide) h
  simp only [Bool.and_eq_true, bne_iff_ne, beq_iff_eq] at h2
  exact ⟨_, hS.2.2 r 10 h2.1, h2.2⟩
theorem sh_0_11 {g : Gs} (hS : Shp g) {r : Nat} (h : cls r = 0) : ∃ e, gR g r 11 = some e ∧ cls e = 2 := by
  have h2 := clsT_s (p := fun r => rfr r 11 != 0 && (cls (rfr r 11 - 1) == 2)) (c := 0) (by decide +kernel) (by decide) h
  simp only [Bool.and_eq_true, bne_iff_ne, beq_iff_eq] at h2
  exact ⟨_, hS.2.2 r 11 h2.1, h2.2⟩
theorem sh_0_13 {g : Gs} (hS : Shp g) {r : Nat} (h : cls r = 0) : ∃ e, gR g r 13 = some e ∧ cls e = 26 := by
  have h2 := clsT_s (p := fun r => rfr r 13 != 0 && (cls (rfr r 13 - 1) == 26)) (c := 0) (by decide +kernel) (by decide) h
  simp only [Bool.and_eq_true, bne_iff_ne, beq_iff_eq] at h2
  exact ⟨_, hS.2.2 r 13 h2.1, h2.2⟩
theorem sh_0_14 {g : Gs} (hS : Shp g) {r : Nat} (h : cls r = 0) : ∃ e, gR g r 14 = some e ∧ cls e = 27 := by
  have h2 := clsT_s (p := fun r => rfr r 14 != 0 && (cls (rfr r 14 - 1) == 27)) (c := 0) (by decide +kernel) (by decide) h
  simp only [Bool.and_eq_true, bne_iff_ne, beq_iff_eq] at h2
  exact ⟨_, hS.2.2 r 14 h2.1, h2.2⟩
theorem sh_0_15 {g : Gs} (hS : Shp g) {r : Nat} (h : cls r = 0) : ∃ e, gR g r 15 = some e ∧ cls e = 28 := by
  have h2 := clsT_s (p := fun r => rfr r 15 != 0 && (cls (rfr r 15 - 1) == 28)) (c := 0) (by decide +kernel) (by decide) h
  simp only [Bool.and_eq_true, bne_iff_ne, beq_iff_eq] at h2
  exact ⟨_, hS.2.2 r 15 h2.1, h2.2⟩
theorem sh_0_17 {g : Gs} (hS : Shp g) {r : Nat} (h : cls r = 0) : ∃ e, gR g r 17 = some e ∧ cls e = 29 := by
  have h2 := clsT_s (p := fun r => rfr r 17 != 0 && (cls (rfr r 17 - 1) == 29)) (c := 0) (by decide +kernel) (by decide) h
  simp only [Bool.and_eq_true, bne_iff_ne, beq_iff_eq] at h2
  exact ⟨_, hS.2.2 r 17 h2.1, h2.2⟩
theorem sh_0_18 {g : Gs} (hS : Shp g) {r : Nat} (h : cls r = 0) : ∃ e, gR g r 18 = some e ∧ cls e = 30 := by
  have h2 := clsT_s (p := fun r => rfr r 18 != 0 && (cls (rfr r 18 - 1) == 30)) (c := 0) (by decide +kernel) (by decide) h
  simp only [Bool.and_eq_true, bne_iff_ne, beq_iff_eq] at h2
  exact ⟨_, hS.2.2 r 18 h2.1, h2.2⟩
theorem sh_1_0 {g : Gs} (hS : Shp g) {r : Nat} (h : cls r = 1) : ∃ e, gR g r 0 = some e ∧ cls e = 0 := by
  have h2 := clsT_s (p := fun r => rfr r 0 != 0 && (cls (rfr r 0 - 1) == 0)) (c := 1) (by decide +kernel) (by decide) h
  simp only [Bool.and_eq_true, bne_iff_ne, beq_iff_eq] at h2
  exact ⟨_, hS.2.2 r 0 h2.1, h2.2⟩
theorem sh_1_1 {g : Gs} (hS : Shp g) {r : Nat} (h : cls r = 1) : ∃ e, gR g r 1 = some e ∧ cls e = 6 ∧ own e = own r := by
  have h2 := clsT_s (p := fun r => rfr r 1 != 0 && (cls (rfr r 1 - 1) == 6 && own (rfr r 1 - 1) == own r)) (c := 1) (by decide +kernel) (by decide) h
  simp only [Bool.and_eq_true, bne_iff_ne, beq_iff_eq] at h2
  exact ⟨_, hS.2.2 r 1 h2.1, h2.2.1, h2.2.2⟩
theorem sh_1_2 {g : Gs} (hS : Shp g) {r : Nat} (h : cls r = 1) : ∃ e, gR g r 2 = some e ∧ cls e = 4 ∧ own e = own r := by
  have h2 := clsT_s (p := fun r => rfr r 2 != 0 && (cls (rfr r 2 - 1) == 4 && own (rfr r 2 - 1) == own r)) (c := 1) (by decide +kernel) (by decide) h
  simp only [Bool.and_eq_true, bne_iff_ne, beq_iff_eq] at h2
  exact ⟨_, hS.2.2 r 2 h2.1, h2.2.1, h2.2.2⟩
theorem sh_1_3 {g : Gs} (hS : Shp g) {r : Nat} (h : cls r = 1) : ∃ e, gR g r 3 = some e ∧ cls e = 3 ∧ own e = own r := by
  have h2 := clsT_s (p := fun r => rfr r 3 != 0 && (cls (rfr r 3 - 1) == 3 && own (rfr r 3 - 1) == own r)) (c := 1) (by decide +kernel) (by decide) h
  simp only [Bool.and_eq_true, bne_iff_ne, beq_iff_eq] at h2
  exact ⟨_, hS.2.2 r 3 h2.1, h2.2.1, h2.2.2⟩
theorem sh_1_4 {g : Gs} (hS : Shp g) {r : Nat} (h : cls r = 1) : ∃ e, gR g r 4 = some e ∧ cls e = 5 ∧ own e = own r := by
  have h2 := clsT_s (p := fun r => rfr r 4 != 0 && (cls (rfr r 4 - 1) == 5 && own (rfr r 4 - 1) == own r)) (c := 1) (by decide +kernel) (by decide) h
  simp only [Bool.and_eq_true, bne_iff_ne, beq_iff_eq] at h2
  exact ⟨_, hS.2.2 r 4 h2.1, h2.2.1, h2.2.2⟩
theorem sh_10_0 {g : Gs} (hS : Shp g) {r : Nat} (h : cls r = 10) : ∃ e, gR g r 0 = some e ∧ cls e = 20 := by
  have h2 := clsT_s (p := fun r => rfr r 0 != 0 && (cls (rfr r 0 - 1) == 20)) (c := 10) (by decide +kernel) (by decide) h
  simp only [Bool.and_eq_true, bne_iff_ne, beq_iff_eq] at h2
  exact ⟨_, hS.2.2 r 0 h2.1, h2.2⟩
theorem sh_10_3 {g : Gs} (hS : Shp g) {r : Nat} (h : cls r = 10) : ∃ e, gR g r 3 = some e ∧ cls e = 7 := by
  have h2 := clsT_s (p := fun r => rfr r 3 != 0 && (cls (rfr r 3 - 1) == 7)) (c := 10) (by decide +kernel) (by decide) h
  simp only [Bool.and_eq_true, bne_iff_ne, beq_iff_eq] at h2
  exact ⟨_, hS.2.2 r 3 h2.1, h2.2⟩
theorem sh_10_4 {g : Gs} (hS : Shp g) {r : Nat} (h : cls r = 10) : ∃ e, gR g r 4 = some e ∧ cls e = 0 := by
  have h2 := clsT_s (p := fun r => rfr r 4 != 0 && (cls (rfr r 4 - 1) == 0)) (c := 10) (by decide +kernel) (by decide) h
  simp only [Bool.and_eq_true, bne_iff_ne, beq_iff_eq] at h2
  exact ⟨_, hS.2.2 r 4 h2.1, h2.2⟩
theorem sh_10_5 {g : Gs} (hS : Shp g) {r : Nat} (h : cls r = 10) : ∃ e, gR g r 5 = some e ∧ cls e = 9 := by
  have h2 := clsT_s (p := fun r => rfr r 5 != 0 && (cls (rfr r 5 - 1) == 9)) (c := 10) (by decide +kernel) (by decide) h
  simp only [Bool.and_eq_true, bne_iff_ne, beq_iff_eq] at h2
  exact ⟨_, hS.2.2 r 5 h2.1, h2.2⟩
theorem sh_10_6 {g : Gs} (hS : Shp g) {r : Nat} (h : cls r = 10) : ∃ e, gR g r 6 = some e ∧ cls e = 1 := by
  have h2 := clsT_s (p := fun r => rfr r 6 != 0 && (cls (rfr r 6 - 1) == 1)) (c := 10) (by decide +kernel) (by decide) h
  simp only [Bool.and_eq_true, bne_iff_ne, beq_iff_eq] at h2
  exact ⟨_, hS.2.2 r 6 h2.1, h2.2⟩
theorem sh_10_7 {g : Gs} (hS : Shp g) {r : Nat} (h : cls r = 10) : ∃ e, gR g r 7 = some e ∧ cls e = 1 := by
  have h2 := clsT_s (p := fun r => rfr r 7 != 0 && (cls (rfr r 7 - 1) == 1)) (c := 10) (by decide +kernel) (by decide) h
  simp only [Bool.and_eq_true, bne_iff_ne, beq_iff_eq] at h2
  exact ⟨_, hS.2.2 r 7 h2.1, h2.2⟩
theorem sh_10_8 {g : Gs} (hS : Shp g) {r : Nat} (h : cls r = 10) : ∃ e, gR g r 8 = some e ∧ cls e = 47 := by
  have h2 := clsT_s (p := fun r => rfr r 8 != 0 && (cls (rfr r 8 - 1) == 47)) (c := 10) (by decide +kernel) (by decide) h
  simp only [Bool.and_eq_true, bne_iff_ne, beq_iff_eq] at h2
  exact ⟨_, hS.2.2 r 8 h2.1, h2.2⟩
theorem sh_11_1 {g : Gs} (hS : Shp g) {r : Nat} (h : cls r = 11) : ∃ e, gR g r 1 = some e ∧ cls e = 48 := by
  have h2 := clsT_s (p := fun r => rfr r 1 != 0 && (cls (rfr r 1 - 1) == 48)) (c := 11) (by decide +kernel) (by decide) h
  simp only [Bool.and_eq_true, bne_iff_ne, beq_iff_eq] at h2
  exact ⟨_, hS.2.2 r 1 h2.1, h2.2⟩
theorem sh_11_17 {g : Gs} (hS : Shp g) {r : Nat} (h : cls r = 11) : ∃ e, gR g r 17 = some e ∧ cls e = 55 := by
  have h2 := clsT_s (p := fun r => rfr r 17 != 0 && (cls (rfr r 17 - 1) == 55)) (c := 11) (by decide +kernel) (by decide) h
  simp only [Bool.and_eq_true, bne_iff_ne, beq_iff_eq] at h2
  exact ⟨_, hS.2.2 r 17 h2.1, h2.2⟩
theorem sh_11_18 {g : Gs} (hS : Shp g) {r : Nat} (h : cls r = 11) : ∃ e, gR g r 18 = some e ∧ cls e = 56 := by
  have h2 := clsT_s (p := fun r => rfr r 18 != 0 && (cls (rfr r 18 - 1) == 56)) (c := 11) (by decide +kernel) (by decide) h
  simp only [Bool.and_eq_true, bne_iff_ne, beq_iff_eq] at h2
  exact ⟨_, hS.2.2 r 18 h2.1, h2.2⟩
theorem sh_11_19 {g : Gs} (hS : Shp g) {r : Nat} (h : cls r = 11) : ∃ e, gR g r 19 = some e ∧ cls e = 57 := by
  have h2 := clsT_s (p := fun r => rfr r 19 != 0 && (cls (rfr r 19 - 1) == 57)) (c := 11) (by decide +kernel) (by decide) h
  simp only [Bool.and_eq_true, bne_iff_ne, beq_iff_eq] at h2
  exact ⟨_, hS.2.2 r 19 h2.1, h2.2⟩
theorem sh_11_23 {g : Gs} (hS : Shp g) {r : Nat} (h : cls r = 11) : ∃ e, gR g r 23 = some e ∧ cls e = 58 := by
  have h2 := clsT_s (p := fun r => rfr r 23 != 0 && (cls (rfr r 23 - 1) == 58)) (c := 11) (by decide +kernel) (by decide) h
  simp only [Bool.and_eq_true, bne_iff_ne, beq_iff_eq] at h2
  exact ⟨_, hS.2.2 r 23 h2.1, h2.2⟩
theorem sh_11_24 {g : Gs} (hS : Shp g) {r : Nat} (h : cls r = 11) : ∃ e, gR g r 24 = some e ∧ cls e = 59 := by
  have h2 := clsT_s (p := fun r => rfr r 24 != 0 && (cls (rfr r 24 - 1) == 59)) (c := 11) (by decide +kernel) (by decide) h
  simp only [Bool.and_eq_true, bne_iff_ne, beq_iff_eq] at h2
  exact ⟨_, hS.2.2 r 24 h2.1, h2.2⟩
theorem sh_11_27 {g : Gs} (hS : Shp g) {r : Nat} (h : cls r = 11) : ∃ e, gR g r 27 = some e ∧ cls e = 60 := by
  have h2 := clsT_s (p := fun r => rfr r 27 != 0 && (cls (rfr r 27 - 1) == 60)) (c := 11) (by decide +kernel) (by decide) h
  simp only [Bool.and_eq_true, bne_iff_ne, beq_iff_eq] at h2
  exact ⟨_, hS.2.2 r 27 h2.1, h2.2⟩
theorem sh_11_28 {g : Gs} (hS : Shp g) {r : Nat} (h : cls r = 11) : ∃ e, gR g r 28 = some e ∧ cls e = 61 := by
  have h2 := clsT_s (p := fun r => rfr r 28 != 0 && (cls (rfr r 28 - 1) == 61)) (c := 11) (by decide +kernel) (by decide) h
  simp only [Bool.and_eq_true, bne_iff_ne, beq_iff_eq] at h2
  exact ⟨_, hS.2.2 r 28 h2.1, h2.2⟩
theorem sh_11_29 {g : Gs} (hS : Shp g) {r : Nat} (h : cls r = 11) : ∃ e, gR g r 29 = some e ∧ cls e = 62 := by
  have h2 := clsT_s (p := fun r => rfr r 29 != 0 && (cls (rfr r 29 - 1) == 62)) (c := 11) (by decide +kernel) (by decide) h
  simp only [Bool.and_eq_true, bne_iff_ne, beq_iff_eq] at h2
  exact ⟨_, hS.2.2 r 29 h2.1, h2.2⟩
theorem sh_11_3 {g : Gs} (hS : Shp g) {r : Nat} (h : cls r = 11) : ∃ e, gR g r 3 = some e ∧ cls e = 49 := by
  have h2 := clsT_s (p := fun r => rfr r 3 != 0 && (cls (rfr r 3 - 1) == 49)) (c := 11) (by decide +kernel) (by decide) h
  simp only [Bool.and_eq_true, bne_iff_ne, beq_iff_eq] at h2
  exact ⟨_, hS.2.2 r 3 h2.1, h2.2⟩
theorem sh_11_30 {g : Gs} (hS : Shp g) {r : Nat} (h : cls r = 11) : ∃ e, gR g r 30 = some e ∧ cls e = 63 := by
  have h2 := clsT_s (p := fun r => rfr r 30 != 0 && (cls (rfr r 30 - 1) == 63)) (c := 11) (by decide +kernel) (by decide) h
  simp only [Bool.and_eq_true, bne_iff_ne, beq_iff_eq] at h2
  exact ⟨_, hS.2.2 r 30 h2.1, h2.2⟩
theorem sh_11_31 {g : Gs} (hS : Shp g) {r : Nat} (h : cls r = 11) : ∃ e, gR g r 31 = some e ∧ cls e = 64 := by
  have h2 := clsT_s (p := fun r => rfr r 31 != 0 && (cls (rfr r 31 - 1) == 64)) (c := 11) (by decide +kernel) (by decide) h
  simp only [Bool.and_eq_true, bne_iff_ne, beq_iff_eq] at h2
  exact ⟨_, hS.2.2 r 31 h2.1, h2.2⟩
theorem sh_11_32 {g : Gs} (hS : Shp g) {r : Nat} (h : cls r = 11) : ∃ e, gR g r 32 = some e ∧ cls e = 65 := by
  have h2 := clsT_s (p := fun r => rfr r 32 != 0 && (cls (rfr r 32 - 1) == 65)) (c := 11) (by decide +kernel) (by decide) h
  simp only [Bool.and_eq_true, bne_iff_ne, beq_iff_eq] at h2
  exact ⟨_, hS.2.2 r 32 h2.1, h2.2⟩
theorem sh_11_5 {g : Gs} (hS : Shp g) {r : Nat} (h : cls r = 11) : ∃ e, gR g r 5 = some e ∧ cls e = 50 := by
  have h2 := clsT_s (p := fun r => rfr r 5 != 0 && (cls (rfr r 5 - 1) == 50)) (c := 11) (by decide +kernel) (by decide) h
  simp only [Bool.and_eq_true, bne_iff_ne, beq_iff_eq] at h2
  exact ⟨_, hS.2.2 r 5 h2.1, h2.2⟩
theorem sh_11_6 {g : Gs} (hS : Shp g) {r : Nat} (h : cls r = 11) : ∃ e, gR g r 6 = some e ∧ cls e = 51 := by
  have h2 := clsT_s (p := fun r => rfr r 6 != 0 && (cls (rfr r 6 - 1) == 51)) (c := 11) (by decide +kernel) (by decide) h
  simp only [Bool.and_eq_true, bne_iff_ne, beq_iff_eq] at h2
  exact ⟨_, hS.2.2 r 6 h2.1, h2.2⟩
theorem sh_11_7 {g : Gs} (hS : Shp g) {r : Nat} (h : cls r = 11) : ∃ e, gR g r 7 = some e ∧ cls e = 52 := by
  have h2 := clsT_s (p := fun r => rfr r 7 != 0 && (cls (rfr r 7 - 1) == 52)) (c := 11) (by decide +kernel) (by decide) h
  simp only [Bool.and_eq_true, bne_iff_ne, beq_iff_eq] at h2
  exact ⟨_, hS.2.2 r 7 h2.1, h2.2⟩
theorem sh_11_8 {g : Gs} (hS : Shp g) {r : Nat} (h : cls r = 11) : ∃ e, gR g r 8 = some e ∧ cls e = 53 := by
  have h2 := clsT_s (p := fun r => rfr r 8 != 0 && (cls (rfr r 8 - 1) == 53)) (c := 11) (by decide +kernel) (by decide) h
  simp only [Bool.and_eq_true, bne_iff_ne, beq_iff_eq] at h2
  exact ⟨_, hS.2.2 r 8 h2.1, h2.2⟩
theorem sh_11_9 {g : Gs} (hS : Shp g) {r : Nat} (h : cls r = 11) : ∃ e, gR g r 9 = some e ∧ cls e = 54 := by
  have h2 := clsT_s (p := fun r => rfr r 9 != 0 && (cls (rfr r 9 - 1) == 54)) (c := 11) (by decide +kernel) (by decide) h
  simp only [Bool.and_eq_true, bne_iff_ne, beq_iff_eq] at h2
  exact ⟨_, hS.2.2 r 9 h2.1, h2.2⟩
theorem sh_12_10 {g : Gs} (hS : Shp g) {r : Nat} (h : cls r = 12) : ∃ e, gR g r 10 = some e ∧ cls e = 25 := by
  have h2 := clsT_s (p := fun r => rfr r 10 != 0 && (cls (rfr r 10 - 1) == 25)) (c := 12) (by decide +kernel) (by decide) h
  simp only [Bool.and_eq_true, bne_iff_ne, beq_iff_eq] at h2
  exact ⟨_, hS.2.2 r 10 h2.1, h2.2⟩
theorem sh_12_11 {g : Gs} (hS : Shp g) {r : Nat} (h : cls r = 12) : ∃ e, gR g r 11 = some e ∧ cls e = 2 := by
  have h2 := clsT_s (p := fun r => rfr r 11 != 0 && (cls (rfr r 11 - 1) == 2)) (c := 12) (by decide +kernel) (by decide) h
  simp only [Bool.and_eq_true, bne_iff_ne, beq_iff_eq] at h2
  exact ⟨_, hS.2.2 r 11 h2.1, h2.2⟩
theorem sh_12_13 {g : Gs} (hS : Shp g) {r : Nat} (h : cls r = 12) : ∃ e, gR g r 13 = some e ∧ cls e = 66 := by
  have h2 := clsT_s (p := fun r => rfr r 13 != 0 && (cls (rfr r 13 - 1) == 66)) (c := 12) (by decide +kernel) (by decide) h
  simp only [Bool.and_eq_true, bne_iff_ne, beq_iff_eq] at h2
  exact ⟨_, hS.2.2 r 13 h2.1, h2.2⟩
theorem sh_12_14 {g : Gs} (hS : Shp g) {r : Nat} (h : cls r = 12) : ∃ e, gR g r 14 = some e ∧ cls e = 67 := by
  have h2 := clsT_s (p := fun r => rfr r 14 != 0 && (cls (rfr r 14 - 1) == 67)) (c := 12) (by decide +kernel) (by decide) h
  simp only [Bool.and_eq_true, bne_iff_ne, beq_iff_eq] at h2
  exact ⟨_, hS.2.2 r 14 h2.1, h2.2⟩
theorem sh_12_15 {g : Gs} (hS : Shp g) {r : Nat} (h : cls r = 12) : ∃ e, gR g r 15 = some e ∧ cls e = 28 := by
  have h2 := clsT_s (p := fun r => rfr r 15 != 0 && (cls (rfr r 15 - 1) == 28)) (c := 12) (by decide +kernel) (by decide) h
  simp only [Bool.and_eq_true, bne_iff_ne, beq_iff_eq] at h2
  exact ⟨_, hS.2.2 r 15 h2.1, h2.2⟩
theorem sh_12_17 {g : Gs} (hS : Shp g) {r : Nat} (h : cls r = 12) : ∃ e, gR g r 17 = some e ∧ cls e = 29 := by
  have h2 := clsT_s (p := fun r => rfr r 17 != 0 && (cls (rfr r 17 - 1) == 29)) (c := 12) (by decide +kernel) (by decide) h
  simp only [Bool.and_eq_true, bne_iff_ne, beq_iff_eq] at h2
  exact ⟨_, hS.2.2 r 17 h2.1, h2.2⟩
theorem sh_12_18 {g : Gs} (hS : Shp g) {r : Nat} (h : cls r = 12) : ∃ e, gR g r 18 = some e ∧ cls e = 30 := by
  have h2 := clsT_s (p := fun r => rfr r 18 != 0 && (cls (rfr r 18 - 1) == 30)) (c := 12) (by decide +kernel) (by decide) h
  simp only [Bool.and_eq_true, bne_iff_ne, beq_iff_eq] at h2
  exact ⟨_, hS.2.2 r 18 h2.1, h2.2⟩
theorem sh_25 {g : Gs} (hS : Shp g) {r j : Nat} (h : cls r = 25) (hj : j < 96) : ∃ e, gR g r j = some e ∧ cls e = 2 := by
  have := clsT_s (p := fun r => (List.range 96).all (fun j => rfr r j != 0 && cls (rfr r j - 1) == 2)) (c := 25) (by decide +kernel) (by decide) h
  have h2 := List.all_eq_true.mp this j (List.mem_range.mpr hj)
  rw [Bool.and_eq_true, bne_iff_ne, beq_iff_eq] at h2
  exact ⟨_, hS.2.2 r j h2.1, h2.2⟩
theorem sh_28 {g : Gs} (hS : Shp g) {r j : Nat} (h : cls r = 28) (hj : j < 4) : ∃ e, gR g r j = some e ∧ cls e = 2 := by
  have := clsT_s (p := fun r => (List.range 4).all (fun j => rfr r j != 0 && cls (rfr r j - 1) == 2)) (c := 28) (by decide +kernel) (by decide) h
  have h2 := List.all_eq_true.mp this j (List.mem_range.mpr hj)
  rw [Bool.and_eq_true, bne_iff_ne, beq_iff_eq] at h2
  exact ⟨_, hS.2.2 r j h2.1, h2.2⟩
theorem sh_3_0 {g : Gs} (hS : Shp g) {r : Nat} (h : cls r = 3) : ∃ e, gR g r 0 = some e ∧ cls e = 38 ∧ own e = own r := by
  have h2 := clsT_s (p := fun r => rfr r 0 != 0 && (cls (rfr r 0 - 1) == 38 && own (rfr r 0 - 1) == own r)) (c := 3) (by decide +kernel) (by decide) h
  simp only [Bool.and_eq_true, bne_iff_ne, beq_iff_eq] at h2
  exact ⟨_, hS.2.2 r 0 h2.1, h2.2.1, h2.2.2⟩
theorem sh_3_1 {g : Gs} (hS : Shp g) {r : Nat} (h : cls r = 3) : ∃ e, gR g r 1 = some e ∧ cls e = 39 ∧ own e = own r := by
  have h2 := clsT_s (p := fun r => rfr r 1 != 0 && (cls (rfr r 1 - 1) == 39 && own (rfr r 1 - 1) == own r)) (c := 3) (by decide +kernel) (by decide) h
  simp only [Bool.and_eq_true, bne_iff_ne, beq_iff_eq] at h2
  exact ⟨_, hS.2.2 r 1 h2.1, h2.2.1, h2.2.2⟩
theorem sh_3_2 {g : Gs} (hS : Shp g) {r : Nat} (h : cls r = 3) : ∃ e, gR g r 2 = some e ∧ cls e = 40 ∧ own e = own r := by
  have h2 := clsT_s (p := fun r => rfr r 2 != 0 && (cls (rfr r 2 - 1) == 40 && own (rfr r 2 - 1) == own r)) (c := 3) (by decide +kernel) (by decide) h
  simp only [Bool.and_eq_true, bne_iff_ne, beq_iff_eq] at h2
  exact ⟨_, hS.2.2 r 2 h2.1, h2.2.1, h2.2.2⟩
theorem sh_3_3 {g : Gs} (hS : Shp g) {r : Nat} (h : cls r = 3) : ∃ e, gR g r 3 = some e ∧ cls e = 41 ∧ own e = own r := by
  have h2 := clsT_s (p := fun r => rfr r 3 != 0 && (cls (rfr r 3 - 1) == 41 && own (rfr r 3 - 1) == own r)) (c := 3) (by decide +kernel) (by decide) h
  simp only [Bool.and_eq_true, bne_iff_ne, beq_iff_eq] at h2
  exact ⟨_, hS.2.2 r 3 h2.1, h2.2.1, h2.2.2⟩
theorem sh_3_7 {g : Gs} (hS : Shp g) {r : Nat} (h : cls r = 3) : ∃ e, gR g r 7 = some e ∧ cls e = 42 ∧ own e = own r := by
  have h2 := clsT_s (p := fun r => rfr r 7 != 0 && (cls (rfr r 7 - 1) == 42 && own (rfr r 7 - 1) == own r)) (c := 3) (by decide +kernel) (by decide) h
  simp only [Bool.and_eq_true, bne_iff_ne, beq_iff_eq] at h2
  exact ⟨_, hS.2.2 r 7 h2.1, h2.2.1, h2.2.2⟩
theorem sh_4_0 {g : Gs} (hS : Shp g) {r : Nat} (h : cls r = 4) : ∃ e, gR g r 0 = some e ∧ cls e = 37 ∧ own e = own r := by
  have h2 := clsT_s (p := fun r => rfr r 0 != 0 && (cls (rfr r 0 - 1) == 37 && own (rfr r 0 - 1) == own r)) (c := 4) (by decide +kernel) (by decide) h
  simp only [Bool.and_eq_true, bne_iff_ne, beq_iff_eq] at h2
  exact ⟨_, hS.2.2 r 0 h2.1, h2.2.1, h2.2.2⟩
theorem sh_47 {g : Gs} (hS : Shp g) {r j : Nat} (h : cls r = 47) (hj : j < 3) : ∃ e, gR g r j = some e ∧ cls e = 1 := by
  have := clsT_s (p := fun r => (List.range 3).all (fun j => rfr r j != 0 && cls (rfr r j - 1) == 1)) (c := 47) (by decide +kernel) (by decide) h
  have h2 := List.all_eq_true.mp this j (List.mem_range.mpr hj)
  rw [Bool.and_eq_true, bne_iff_ne, beq_iff_eq] at h2
  exact ⟨_, hS.2.2 r j h2.1, h2.2⟩
theorem sh_5_0 {g : Gs} (hS : Shp g) {r : Nat} (h : cls r = 5) : ∃ e, gR g r 0 = some e ∧ cls e = 43 ∧ own e = own r := by
  have h2 := clsT_s (p := fun r => rfr r 0 != 0 && (cls (rfr r 0 - 1) == 43 && own (rfr r 0 - 1) == own r)) (c := 5) (by decide +kernel) (by decide) h
  simp only [Bool.and_eq_true, bne_iff_ne, beq_iff_eq] at h2
  exact ⟨_, hS.2.2 r 0 h2.1, h2.2.1, h2.2.2⟩
theorem sh_5_1 {g : Gs} (hS : Shp g) {r : Nat} (h : cls r = 5) : ∃ e, gR g r 1 = some e ∧ cls e = 44 ∧ own e = own r := by
  have h2 := clsT_s (p := fun r => rfr r 1 != 0 && (cls (rfr r 1 - 1) == 44 && own (rfr r 1 - 1) == own r)) (c := 5) (by decide +kernel) (by decide) h
  simp only [Bool.and_eq_true, bne_iff_ne, beq_iff_eq] at h2
  exact ⟨_, hS.2.2 r 1 h2.1, h2.2.1, h2.2.2⟩
theorem sh_5_2 {g : Gs} (hS : Shp g) {r : Nat} (h : cls r = 5) : ∃ e, gR g r 2 = some e ∧ cls e = 45 ∧ own e = own r := by
  have h2 := clsT_s (p := fun r => rfr r 2 != 0 && (cls (rfr r 2 - 1) == 45 && own (rfr r 2 - 1) == own r)) (c := 5) (by decide +kernel) (by decide) h
  simp only [Bool.and_eq_true, bne_iff_ne, beq_iff_eq] at h2
  exact ⟨_, hS.2.2 r 2 h2.1, h2.2.1, h2.2.2⟩
theorem sh_5_3 {g : Gs} (hS : Shp g) {r : Nat} (h : cls r = 5) : ∃ e, gR g r 3 = some e ∧ cls e = 46 ∧ own e = own r := by
  have h2 := clsT_s (p := fun r => rfr r 3 != 0 && (cls (rfr r 3 - 1) == 46 && own (rfr r 3 - 1) == own r)) (c := 5) (by decide +kernel) (by decide) h
  simp only [Bool.and_eq_true, bne_iff_ne, beq_iff_eq] at h2
  exact ⟨_, hS.2.2 r 3 h2.1, h2.2.1, h2.2.2⟩
theorem sh_6_4 {g : Gs} (hS : Shp g) {r : Nat} (h : cls r = 6) : ∃ e, gR g r 4 = some e ∧ cls e = 32 ∧ own e = own r := by
  have h2 := clsT_s (p := fun r => rfr r 4 != 0 && (cls (rfr r 4 - 1) == 32 && own (rfr r 4 - 1) == own r)) (c := 6) (by decide +kernel) (by decide) h
  simp only [Bool.and_eq_true, bne_iff_ne, beq_iff_eq] at h2
  exact ⟨_, hS.2.2 r 4 h2.1, h2.2.1, h2.2.2⟩
theorem sh_6_5 {g : Gs} (hS : Shp g) {r : Nat} (h : cls r = 6) : ∃ e, gR g r 5 = some e ∧ cls e = 33 ∧ own e = own r := by
  have h2 := clsT_s (p := fun r => rfr r 5 != 0 && (cls (rfr r 5 - 1) == 33 && own (rfr r 5 - 1) == own r)) (c := 6) (by decide +kernel) (by decide) h
  simp only [Bool.and_eq_true, bne_iff_ne, beq_iff_eq] at h2
  exact ⟨_, hS.2.2 r 5 h2.1, h2.2.1, h2.2.2⟩
theorem sh_6_6 {g : Gs} (hS : Shp g) {r : Nat} (h : cls r = 6) : ∃ e, gR g r 6 = some e ∧ cls e = 34 ∧ own e = own r := by
  have h2 := clsT_s (p := fun r => rfr r 6 != 0 && (cls (rfr r 6 - 1) == 34 && own (rfr r 6 - 1) == own r)) (c := 6) (by decide +kernel) (by decide) h
  simp only [Bool.and_eq_true, bne_iff_ne, beq_iff_eq] at h2
  exact ⟨_, hS.2.2 r 6 h2.1, h2.2.1, h2.2.2⟩
theorem sh_6_7 {g : Gs} (hS : Shp g) {r : Nat} (h : cls r = 6) : ∃ e, gR g r 7 = some e ∧ cls e = 35 ∧ own e = own r := by
  have h2 := clsT_s (p := fun r => rfr r 7 != 0 && (cls (rfr r 7 - 1) == 35 && own (rfr r 7 - 1) == own r)) (c := 6) (by decide +kernel) (by decide) h
  simp only [Bool.and_eq_true, bne_iff_ne, beq_iff_eq] at h2
  exact ⟨_, hS.2.2 r 7 h2.1, h2.2.1, h2.2.2⟩
theorem sh_6_8 {g : Gs} (hS : Shp g) {r : Nat} (h : cls r = 6) : ∃ e, gR g r 8 = some e ∧ cls e = 36 ∧ own e = own r := by
  have h2 := clsT_s (p := fun r => rfr r 8 != 0 && (cls (rfr r 8 - 1) == 36 && own (rfr r 8 - 1) == own r)) (c := 6) (by decide +kernel) (by decide) h
  simp only [Bool.and_eq_true, bne_iff_ne, beq_iff_eq] at h2
  exact ⟨_, hS.2.2 r 8 h2.1, h2.2.1, h2.2.2⟩
theorem sh_7_0 {g : Gs} (hS : Shp g) {r : Nat} (h : cls r = 7) : ∃ e, gR g r 0 = some e ∧ cls e = 8 := by
  have h2 := clsT_s (p := fun r => rfr r 0 != 0 && (cls (rfr r 0 - 1) == 8)) (c := 7) (by decide +kernel) (by decide) h
  simp only [Bool.and_eq_true, bne_iff_ne, beq_iff_eq] at h2
  exact ⟨_, hS.2.2 r 0 h2.1, h2.2⟩
theorem sh_7_1 {g : Gs} (hS : Shp g) {r : Nat} (h : cls r = 7) : ∃ e, gR g r 1 = some e ∧ cls e = 2 := by
  have h2 := clsT_s (p := fun r => rfr r 1 != 0 && (cls (rfr r 1 - 1) == 2)) (c := 7) (by decide +kernel) (by decide) h
  simp only [Bool.and_eq_true, bne_iff_ne, beq_iff_eq] at h2
  exact ⟨_, hS.2.2 r 1 h2.1, h2.2⟩
theorem sh_7_2 {g : Gs} (hS : Shp g) {r : Nat} (h : cls r = 7) : ∃ e, gR g r 2 = some e ∧ cls e = 12 := by
  have h2 := clsT_s (p := fun r => rfr r 2 != 0 && (cls (rfr r 2 - 1) == 12)) (c := 7) (by decide +kernel) (by decide) h
  simp only [Bool.and_eq_true, bne_iff_ne, beq_iff_eq] at h2
  exact ⟨_, hS.2.2 r 2 h2.1, h2.2⟩
theorem sh_8_0 {g : Gs} (hS : Shp g) {r : Nat} (h : cls r = 8) : ∃ e, gR g r 0 = some e ∧ cls e = 21 := by
  have h2 := clsT_s (p := fun r => rfr r 0 != 0 && (cls (rfr r 0 - 1) == 21)) (c := 8) (by decide +kernel) (by decide) h
  simp only [Bool.and_eq_true, bne_iff_ne, beq_iff_eq] at h2
  exact ⟨_, hS.2.2 r 0 h2.1, h2.2⟩
theorem sh_8_1 {g : Gs} (hS : Shp g) {r : Nat} (h : cls r = 8) : ∃ e, gR g r 1 = some e ∧ cls e = 22 := by
  have h2 := clsT_s (p := fun r => rfr r 1 != 0 && (cls (rfr r 1 - 1) == 22)) (c := 8) (by decide +kernel) (by decide) h
  simp only [Bool.and_eq_true, bne_iff_ne, beq_iff_eq] at h2
  exact ⟨_, hS.2.2 r 1 h2.1, h2.2⟩
theorem sh_8_2 {g : Gs} (hS : Shp g) {r : Nat} (h : cls r = 8) : ∃ e, gR g r 2 = some e ∧ cls e = 23 := by
  have h2 := clsT_s (p := fun r => rfr r 2 != 0 && (cls (rfr r 2 - 1) == 23)) (c := 8) (by decide +kernel) (by decide) h
  simp only [Bool.and_eq_true, bne_iff_ne, beq_iff_eq] at h2
  exact ⟨_, hS.2.2 r 2 h2.1, h2.2⟩
theorem sh_8_3 {g : Gs} (hS : Shp g) {r : Nat} (h : cls r = 8) : ∃ e, gR g r 3 = some e ∧ cls e = 24 := by
  have h2 := clsT_s (p := fun r => rfr r 3 != 0 && (cls (rfr r 3 - 1) == 24)) (c := 8) (by decide +kernel) (by decide) h
  simp only [Bool.and_eq_true, bne_iff_ne, beq_iff_eq] at h2
  exact ⟨_, hS.2.2 r 3 h2.1, h2.2⟩
theorem sh_9_0 {g : Gs} (hS : Shp g) {r : Nat} (h : cls r = 9) : ∃ e, gR g r 0 = some e ∧ cls e = 31 := by
  have h2 := clsT_s (p := fun r => rfr r 0 != 0 && (cls (rfr r 0 - 1) == 31)) (c := 9) (by decide +kernel) (by decide) h
  simp only [Bool.and_eq_true, bne_iff_ne, beq_iff_eq] at h2
  exact ⟨_, hS.2.2 r 0 h2.1, h2.2⟩
/-! what the numbers of the world are between -/
def okE (v : Int32) : Prop := 0 ≤ v.toInt ∧ v.toInt % 64 < 48
/-- the model's row: b bounds its two counters -/
def okN (b : Int) (j : Nat) (v : Int32) : Prop := (j = 0 → iv v 0 4) ∧ (j = 1 → iv v 0 6) ∧ (j = 9 → iv v 0 20) ∧ (j = 10 ∨ j = 11 → iv v 0 4) ∧ (300 ≤ j ∧ j < 316 ∧ (j - 300) % 4 < 2 → iv v 0 23) ∧ (316 ≤ j ∧ j < 352 ∧ (j - 316) % 9 = 0 → iv v 0 8) ∧ (j = 354 ∨ j = 555 → iv v 0 b) ∧ (j = 557 → iv v 0 2500) ∧ (558 ≤ j ∧ j < 1678 ∧ (j - 558) % 28 = 2 → iv v (-2) 25) ∧ (1678 ≤ j ∧ (j - 1678) % 3 = 0 → iv v 0 23) ∧ (1678 ≤ j ∧ (j - 1678) % 3 = 1 → iv v 0 1) ∧ (1678 ≤ j ∧ (j - 1678) % 3 = 2 → iv v 0 b)
def okv0 (b : Int) (j : Nat) (v : Int32) : Prop := match j with
  | 0 => iv v 0 4
  | 1 => iv v 0 6
  | 2 => iv v 0 1
  | 3 => iv v 0 1
  | 12 => iv v 0 4
  | 16 => iv v 0 4
  | _ => True
def okv1 (b : Int) (j : Nat) (v : Int32) : Prop := match j with
  | 5 => iv v 0 b
  | _ => True
def okv3 (b : Int) (j : Nat) (v : Int32) : Prop := match j with
  | 4 => iv v 0 24
  | 8 => iv v 0 25
  | _ => True
def okv4 (b : Int) (j : Nat) (v : Int32) : Prop := match j with
  | 1 => iv v 0 2400
  | _ => True
def okv5 (b : Int) (j : Nat) (v : Int32) : Prop := match j with
  | 4 => iv v 0 b
  | _ => True
def okv7 (b : Int) (j : Nat) (v : Int32) : Prop := match j with
  | 3 => iv v 0 400
  | _ => True
def okv8 (b : Int) (j : Nat) (v : Int32) : Prop := match j with
  | 4 => iv v 0 401
  | 5 => iv v 0 2000
  | _ => True
def okv10 (b : Int) (j : Nat) (v : Int32) : Prop := match j with
  | 1 => iv v 0 2000
  | _ => True
def okv11 (b : Int) (j : Nat) (v : Int32) : Prop := match j with
  | 2 => iv v 0 2000
  | 4 => iv v 0 2000
  | 10 => iv v 0 402
  | 11 => iv v 0 400
  | 22 => iv v 0 1
  | 26 => iv v 0 25
  | _ => True
def okv12 (b : Int) (j : Nat) (v : Int32) : Prop := match j with
  | 2 => iv v 0 1
  | 3 => iv v 0 1
  | 12 => iv v 0 4
  | 16 => iv v 0 4
  | _ => True
def okv (b : Int) (c j : Nat) (v : Int32) : Prop := match c with
  | 0 => okv0 b j v
  | 1 => okv1 b j v
  | 3 => okv3 b j v
  | 4 => okv4 b j v
  | 5 => okv5 b j v
  | 7 => okv7 b j v
  | 8 => okv8 b j v
  | 10 => okv10 b j v
  | 11 => okv11 b j v
  | 12 => okv12 b j v
  | 29 => iv v 0 8
  | 40 => iv v (-1) 23
  | 41 => iv v 0 23
  | 45 => iv v (-2) 25
  | 65 => iv v 0 1
  | 37 => okE v
  | 55 => okN b j v
  | 61 => okN b j v
  | 63 => okN b (j % 9178) v
  | _ => True
/-- a region of the world that stays as it was (chosen by who asks) -/
abbrev Reg : Type := Nat → Nat → Prop
def Inv (φ : Reg) (b : Nat → Int) (d0 d : Ds) : Prop := (∀ r j, r < 347 → j < nln r → okv (b (own r)) (cls r) j (dI d r j)) ∧ (∀ r j, nnF (dF d r j)) ∧ (∀ r j, wkb (dW d r j)) ∧ ∀ r j, φ r j → dI d r j = dI d0 r j
theorem Inv.set {φ : Reg} {b : Nat → Int} {d0 d d1 : Ds} {r j : Nat} {v : Int32} (e : d1 = sI d r j v) (h : Inv φ b d0 d) (hv : okv (b (own r)) (cls r) j v) (hp : ¬ φ r j) : Inv φ b d0 d1 := by
  subst e
  refine ⟨fun r' j' h1 h2 => ?_, h.2.1, h.2.2.1, fun r' j' hq => ?_⟩
  · rw [sI_rd]
    by_cases hq : r' = r ∧ j' = j
    · rw [if_pos hq, hq.1, hq.2]
      exact hv
    · rw [if_neg hq]
      exact h.1 r' j' h1 h2
  · rw [sI_rd, if_neg (fun hq2 => hp (by rw [← hq2.1, ← hq2.2]; exact hq))]
    exact h.2.2.2 r' j' hq
theorem Inv.setF {φ : Reg} {b : Nat → Int} {d0 d d1 : Ds} {r j : Nat} {v : UInt32} (e : d1 = sF d r j v) (h : Inv φ b d0 d) (hv : nnF v) : Inv φ b d0 d1 := by
  subst e
  refine ⟨h.1, fun r' j' => ?_, h.2.2.1, h.2.2.2⟩
  rw [sF_rd]
  by_cases hq : r' = r ∧ j' = j
  · rw [if_pos hq]
    exact hv
  · rw [if_neg hq]
    exact h.2.1 r' j'
theorem Inv.setL {φ : Reg} {b : Nat → Int} {d0 d d1 : Ds} {r j : Nat} {v : Int64} (e : d1 = sL d r j v) (h : Inv φ b d0 d) : Inv φ b d0 d1 := by
  subst e
  exact ⟨h.1, h.2.1, h.2.2.1, h.2.2.2⟩
theorem Inv.setW {φ : Reg} {b : Nat → Int} {d0 d d1 : Ds} {r j : Nat} {v : Option Nat} (e : d1 = sW d r j v) (h : Inv φ b d0 d) (hv : wkb v) : Inv φ b d0 d1 := by
  subst e
  refine ⟨h.1, h.2.1, fun r' j' => ?_, h.2.2.2⟩
  rw [sW_rd]
  by_cases hq : r' = r ∧ j' = j
  · rw [if_pos hq]
    exact hv
  · rw [if_neg hq]
    exact h.2.2.1 r' j'
theorem Inv.cpI {φ : Reg} {b : Nat → Int} {d0 d d1 : Ds} {a r sp dp n : Nat} (e : d1 = cI d a r sp dp n) (h : Inv φ b d0 d) (hv : ∀ i, i < n → okv (b (own r)) (cls r) (dp + i) (dI d a (sp + i))) (hp : ∀ j, ¬ φ r j) : Inv φ b d0 d1 := by
  subst e
  refine ⟨fun r' j' h1 h2 => ?_, h.2.1, h.2.2.1, fun r' j' hq => ?_⟩
  · rw [cI_rd]
    by_cases hq : r' = r ∧ dp ≤ j' ∧ j' < dp + n
    · rw [if_pos hq, hq.1]
      have := hv (j' - dp) (by omega)
      rw [show dp + (j' - dp) = j' by omega] at this
      exact this
    · rw [if_neg hq]
      exact h.1 r' j' h1 h2
  · rw [cI_rd, if_neg (fun hq2 => hp j' (by rw [← hq2.1]; exact hq))]
    exact h.2.2.2 r' j' hq
theorem Inv.cpF {φ : Reg} {b : Nat → Int} {d0 d d1 : Ds} {a r sp dp n : Nat} (e : d1 = cF d a r sp dp n) (h : Inv φ b d0 d) : Inv φ b d0 d1 := by
  subst e
  refine ⟨h.1, fun r' j' => ?_, h.2.2.1, h.2.2.2⟩
  rw [cF_rd]
  by_cases hq : r' = r ∧ dp ≤ j' ∧ j' < dp + n
  · rw [if_pos hq]
    exact h.2.1 _ _
  · rw [if_neg hq]
    exact h.2.1 r' j'
theorem rd_0_0 {φ : Reg} {b : Nat → Int} {d0 d : Ds} (h : Inv φ b d0 d) {r : Nat} (hc : cls r = 0) : iv (dI d r 0) 0 4 := by
  have := h.1 r 0 (cls_lt hc (by decide)) (by rw [nl_0 hc]; decide)
  rw [hc] at this
  exact this
theorem rd_0_1 {φ : Reg} {b : Nat → Int} {d0 d : Ds} (h : Inv φ b d0 d) {r : Nat} (hc : cls r = 0) : iv (dI d r 1) 0 6 := by
  have := h.1 r 1 (cls_lt hc (by decide)) (by rw [nl_0 hc]; decide)
  rw [hc] at this
  exact this
theorem rd_0_2 {φ : Reg} {b : Nat → Int} {d0 d : Ds} (h : Inv φ b d0 d) {r : Nat} (hc : cls r = 0) : iv (dI d r 2) 0 1 := by
  have := h.1 r 2 (cls_lt hc (by decide)) (by rw [nl_0 hc]; decide)
  rw [hc] at this
  exact this
theorem rd_0_3 {φ : Reg} {b : Nat → Int} {d0 d : Ds} (h : Inv φ b d0 d) {r : Nat} (hc : cls r = 0) : iv (dI d r 3) 0 1 := by
  have := h.1 r 3 (cls_lt hc (by decide)) (by rw [nl_0 hc]; decide)
  rw [hc] at this
  exact this
theorem rd_0_12 {φ : Reg} {b : Nat → Int} {d0 d : Ds} (h : Inv φ b d0 d) {r : Nat} (hc : cls r = 0) : iv (dI d r 12) 0 4 := by
  have := h.1 r 12 (cls_lt hc (by decide)) (by rw [nl_0 hc]; decide)
  rw [hc] at this
  exact this
theorem rd_0_16 {φ : Reg} {b : Nat → Int} {d0 d : Ds} (h : Inv φ b d0 d) {r : Nat} (hc : cls r = 0) : iv (dI d r 16) 0 4 := by
  have := h.1 r 16 (cls_lt hc (by decide)) (by rw [nl_0 hc]; decide)
  rw [hc] at this
  exact this
theorem rd_3_4 {φ : Reg} {b : Nat → Int} {d0 d : Ds} (h : Inv φ b d0 d) {r : Nat} (hc : cls r = 3) : iv (dI d r 4) 0 24 := by
  have := h.1 r 4 (cls_lt hc (by decide)) (by rw [nl_3 hc]; decide)
  rw [hc] at this
  exact this
theorem rd_3_8 {φ : Reg} {b : Nat → Int} {d0 d : Ds} (h : Inv φ b d0 d) {r : Nat} (hc : cls r = 3) : iv (dI d r 8) 0 25 := by
  have := h.1 r 8 (cls_lt hc (by decide)) (by rw [nl_3 hc]; decide)
  rw [hc] at this
  exact this
theorem rd_4_1 {φ : Reg} {b : Nat → Int} {d0 d : Ds} (h : Inv φ b d0 d) {r : Nat} (hc : cls r = 4) : iv (dI d r 1) 0 2400 := by
  have := h.1 r 1 (cls_lt hc (by decide)) (by rw [nl_4 hc]; decide)
  rw [hc] at this
  exact this
theorem rd_7_3 {φ : Reg} {b : Nat → Int} {d0 d : Ds} (h : Inv φ b d0 d) {r : Nat} (hc : cls r = 7) : iv (dI d r 3) 0 400 := by
  have := h.1 r 3 (cls_lt hc (by decide)) (by rw [nl_7 hc]; decide)
  rw [hc] at this
  exact this
theorem rd_8_4 {φ : Reg} {b : Nat → Int} {d0 d : Ds} (h : Inv φ b d0 d) {r : Nat} (hc : cls r = 8) : iv (dI d r 4) 0 401 := by
  have := h.1 r 4 (cls_lt hc (by decide)) (by rw [nl_8 hc]; decide)
  rw [hc] at this
  exact this
theorem rd_8_5 {φ : Reg} {b : Nat → Int} {d0 d : Ds} (h : Inv φ b d0 d) {r : Nat} (hc : cls r = 8) : iv (dI d r 5) 0 2000 := by
  have := h.1 r 5 (cls_lt hc (by decide)) (by rw [nl_8 hc]; decide)
  rw [hc] at this
  exact this
theorem rd_10_1 {φ : Reg} {b : Nat → Int} {d0 d : Ds} (h : Inv φ b d0 d) {r : Nat} (hc : cls r = 10) : iv (dI d r 1) 0 2000 := by
  have := h.1 r 1 (cls_lt hc (by decide)) (by rw [nl_10 hc]; decide)
  rw [hc] at this
  exact this
theorem rd_11_2 {φ : Reg} {b : Nat → Int} {d0 d : Ds} (h : Inv φ b d0 d) {r : Nat} (hc : cls r = 11) : iv (dI d r 2) 0 2000 := by
  have := h.1 r 2 (cls_lt hc (by decide)) (by rw [nl_11 hc]; decide)
  rw [hc] at this
  exact this
theorem rd_11_4 {φ : Reg} {b : Nat → Int} {d0 d : Ds} (h : Inv φ b d0 d) {r : Nat} (hc : cls r = 11) : iv (dI d r 4) 0 2000 := by
  have := h.1 r 4 (cls_lt hc (by decide)) (by rw [nl_11 hc]; decide)
  rw [hc] at this
  exact this
theorem rd_11_10 {φ : Reg} {b : Nat → Int} {d0 d : Ds} (h : Inv φ b d0 d) {r : Nat} (hc : cls r = 11) : iv (dI d r 10) 0 402 := by
  have := h.1 r 10 (cls_lt hc (by decide)) (by rw [nl_11 hc]; decide)
  rw [hc] at this
  exact this
theorem rd_11_11 {φ : Reg} {b : Nat → Int} {d0 d : Ds} (h : Inv φ b d0 d) {r : Nat} (hc : cls r = 11) : iv (dI d r 11) 0 400 := by
  have := h.1 r 11 (cls_lt hc (by decide)) (by rw [nl_11 hc]; decide)
  rw [hc] at this
  exact this
theorem rd_11_22 {φ : Reg} {b : Nat → Int} {d0 d : Ds} (h : Inv φ b d0 d) {r : Nat} (hc : cls r = 11) : iv (dI d r 22) 0 1 := by
  have := h.1 r 22 (cls_lt hc (by decide)) (by rw [nl_11 hc]; decide)
  rw [hc] at this
  exact this
theorem rd_11_26 {φ : Reg} {b : Nat → Int} {d0 d : Ds} (h : Inv φ b d0 d) {r : Nat} (hc : cls r = 11) : iv (dI d r 26) 0 25 := by
  have := h.1 r 26 (cls_lt hc (by decide)) (by rw [nl_11 hc]; decide)
  rw [hc] at this
  exact this
theorem rd_12_2 {φ : Reg} {b : Nat → Int} {d0 d : Ds} (h : Inv φ b d0 d) {r : Nat} (hc : cls r = 12) : iv (dI d r 2) 0 1 := by
  have := h.1 r 2 (cls_lt hc (by decide)) (by rw [nl_12 hc]; decide)
  rw [hc] at this
  exact this
theorem rd_12_3 {φ : Reg} {b : Nat → Int} {d0 d : Ds} (h : Inv φ b d0 d) {r : Nat} (hc : cls r = 12) : iv (dI d r 3) 0 1 := by
  have := h.1 r 3 (cls_lt hc (by decide)) (by rw [nl_12 hc]; decide)
  rw [hc] at this
  exact this
theorem rd_12_12 {φ : Reg} {b : Nat → Int} {d0 d : Ds} (h : Inv φ b d0 d) {r : Nat} (hc : cls r = 12) : iv (dI d r 12) 0 4 := by
  have := h.1 r 12 (cls_lt hc (by decide)) (by rw [nl_12 hc]; decide)
  rw [hc] at this
  exact this
theorem rd_12_16 {φ : Reg} {b : Nat → Int} {d0 d : Ds} (h : Inv φ b d0 d) {r : Nat} (hc : cls r = 12) : iv (dI d r 16) 0 4 := by
  have := h.1 r 16 (cls_lt hc (by decide)) (by rw [nl_12 hc]; decide)
  rw [hc] at this
  exact this
theorem rd_1_5 {φ : Reg} {b : Nat → Int} {d0 d : Ds} (h : Inv φ b d0 d) {r : Nat} (hc : cls r = 1) : iv (dI d r 5) 0 (b (own r)) := by
  have := h.1 r 5 (cls_lt hc (by decide)) (by rw [nl_1 hc]; decide)
  rw [hc] at this
  exact this
theorem rd_5_4 {φ : Reg} {b : Nat → Int} {d0 d : Ds} (h : Inv φ b d0 d) {r : Nat} (hc : cls r = 5) : iv (dI d r 4) 0 (b (own r)) := by
  have := h.1 r 4 (cls_lt hc (by decide)) (by rw [nl_5 hc]; decide)
  rw [hc] at this
  exact this
theorem rd_29 {φ : Reg} {b : Nat → Int} {d0 d : Ds} (h : Inv φ b d0 d) {r j : Nat} (hc : cls r = 29) (hj : j < 4) : iv (dI d r j) 0 8 := by
  have := h.1 r j (cls_lt hc (by decide)) (by rw [nl_29 hc]; exact hj)
  rw [hc] at this
  exact this
theorem rd_40 {φ : Reg} {b : Nat → Int} {d0 d : Ds} (h : Inv φ b d0 d) {r j : Nat} (hc : cls r = 40) (hj : j < 24) : iv (dI d r j) (-1) 23 := by
  have := h.1 r j (cls_lt hc (by decide)) (by rw [nl_40 hc]; exact hj)
  rw [hc] at this
  exact this
theorem rd_41 {φ : Reg} {b : Nat → Int} {d0 d : Ds} (h : Inv φ b d0 d) {r j : Nat} (hc : cls r = 41) (hj : j < 24) : iv (dI d r j) 0 23 := by
  have := h.1 r j (cls_lt hc (by decide)) (by rw [nl_41 hc]; exact hj)
  rw [hc] at this
  exact this
theorem rd_45 {φ : Reg} {b : Nat → Int} {d0 d : Ds} (h : Inv φ b d0 d) {r j : Nat} (hc : cls r = 45) (hj : j < 40) : iv (dI d r j) (-2) 25 := by
  have := h.1 r j (cls_lt hc (by decide)) (by rw [nl_45 hc]; exact hj)
  rw [hc] at this
  exact this
theorem rd_65 {φ : Reg} {b : Nat → Int} {d0 d : Ds} (h : Inv φ b d0 d) {r j : Nat} (hc : cls r = 65) (hj : j < 3) : iv (dI d r j) 0 1 := by
  have := h.1 r j (cls_lt hc (by decide)) (by rw [nl_65 hc]; exact hj)
  rw [hc] at this
  exact this
theorem rd_37 {φ : Reg} {b : Nat → Int} {d0 d : Ds} (h : Inv φ b d0 d) {r j : Nat} (hc : cls r = 37) (hj : j < 2400) : okE (dI d r j) := by
  have := h.1 r j (cls_lt hc (by decide)) (by rw [nl_37 hc]; exact hj)
  rw [hc] at this
  exact this
theorem rd_55 {φ : Reg} {b : Nat → Int} {d0 d : Ds} (h : Inv φ b d0 d) {r j : Nat} (hc : cls r = 55) (hj : j < 9178) : okN (b (own r)) j (dI d r j) := by
  have := h.1 r j (cls_lt hc (by decide)) (by rw [nl_55 hc]; exact hj)
  rw [hc] at this
  exact this
theorem rd_61 {φ : Reg} {b : Nat → Int} {d0 d : Ds} (h : Inv φ b d0 d) {r j : Nat} (hc : cls r = 61) (hj : j < 9178) : okN (b (own r)) j (dI d r j) := by
  have := h.1 r j (cls_lt hc (by decide)) (by rw [nl_61 hc]; exact hj)
  rw [hc] at this
  exact this

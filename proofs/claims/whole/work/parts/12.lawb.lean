/-! ===== the law's bytes, and what stands at each place ===== -/
def Bt (c : ByteArray) (p n : Nat) : Prop := ∃ h : p < c.size, (c[p]'h).toNat = n
theorem bt_of {c : ByteArray} {k i n p : Nat} {xs : List UInt8} {w : Nat} (h : (c.data.toList.drop k).take w = xs) (hx : xs[i]?.map UInt8.toNat = some n) (hp : p = k + i) (hi : i < w) : Bt c p n := by
  subst hp
  subst h
  rw [List.getElem?_take_of_lt hi, List.getElem?_drop] at hx
  obtain ⟨x, h1, h2⟩ := Option.map_eq_some_iff.mp hx
  obtain ⟨h3, h4⟩ := List.getElem?_eq_some_iff.mp h1
  have h5 : k + i < c.size := by
    show k + i < c.data.size
    rw [← Array.length_toList]
    exact h3
  refine ⟨h5, ?_⟩
  rw [← h2, ← h4]
  rfl
theorem u1_b {c : ByteArray} {p n : Nat} (h : Bt c p n) : (Reader.u1 : Decoder Nat) c p = .ok (n, p + 1) := by
  obtain ⟨h1, h2⟩ := h
  subst h2
  show (if h : p < c.size then _ else _ : ReaderT ByteArray (StateT Nat (Except DecodeError)) Nat) c p = _
  rw [dif_pos h1]
  rfl
theorem runAt_b {α : Type} {r : Decoder α} {c : ByteArray} {p : Nat} : r.runAt c p = r c p := rfl
theorem bind_b {α β : Type} {r : Decoder α} {K : α → Decoder β} {c : ByteArray} {p q : Nat} {x : α} {y : Except DecodeError (β × Nat)} (hu : r c p = .ok (x, q)) (hk : K x c q = y) : (r >>= K : Decoder β) c p = y := by
  show (r c p).bind (fun z => K z.1 c z.2) = y
  rw [hu]
  exact hk
theorem s1_b {c : ByteArray} {p n : Nat} (h : Bt c p n) : (Reader.s1 : Decoder Int) c p = .ok (Reader.signed 8 n, p + 1) := by
  show ((Reader.u1 : Decoder Nat) c p).bind (fun z => .ok (Reader.signed 8 z.1, z.2)) = _
  rw [u1_b h]
  rfl
theorem u2_b {c : ByteArray} {p n k : Nat} (h : Bt c p n) (h1 : Bt c (p + 1) k) : (Reader.u2 : Decoder Nat) c p = .ok (n * 256 + k, p + 2) := bind_b (u1_b h) (bind_b (u1_b h1) rfl)
theorem s2_b {c : ByteArray} {p n k : Nat} (h : Bt c p n) (h1 : Bt c (p + 1) k) : (Reader.s2 : Decoder Int) c p = .ok (Reader.signed 16 (n * 256 + k), p + 2) := by
  show ((Reader.u2 : Decoder Nat) c p).bind (fun z => .ok (Reader.signed 16 z.1, z.2)) = _
  rw [u2_b h h1]
  rfl
theorem fin_b {c : ByteArray} {p q n : Nat} {i : Instr} (h : Decoder.instr p c p = .ok (i, q)) (hn : q - p = n) : decode c p = .ok (i, n) := by
  show (Decoder.instr p c p).bind (fun z => .ok (z.1, z.2 - p)) = _
  rw [h]
  subst hn
  rfl
theorem lb_0 : (cL_law.data.toList.drop 0).take 72 = [187, 0, 8, 89, 183, 0, 167, 76, 187, 0, 168, 89, 183, 0, 170, 77, 4, 188, 11, 78, 3, 54, 4, 21, 4, 42, 190, 16, 7, 100, 163, 13, 195, 42, 21, 4, 46, 16, 63, 126, 170, 0, 0, 0, 0, 0, 13, 179, 0, 0, 0, 0, 0, 0, 0, 43, 0, 0, 0, 192, 0, 0, 1, 48, 0, 0, 1, 106, 0, 0, 1, 119] := by decide +kernel
theorem lb_1 : (cL_law.data.toList.drop 64).take 72 = [0, 0, 1, 106, 0, 0, 1, 119, 0, 0, 1, 175, 0, 0, 1, 188, 0, 0, 1, 243, 0, 0, 2, 43, 0, 0, 2, 99, 0, 0, 2, 193, 0, 0, 3, 19, 0, 0, 3, 99, 0, 0, 3, 193, 0, 0, 4, 31, 0, 0, 4, 137, 0, 0, 4, 217, 0, 0, 5, 29, 0, 0, 5, 104, 0, 0, 5, 198, 0, 0, 6, 29] := by decide +kernel
theorem lb_2 : (cL_law.data.toList.drop 128).take 72 = [0, 0, 5, 198, 0, 0, 6, 29, 0, 0, 6, 140, 0, 0, 6, 251, 0, 0, 7, 75, 0, 0, 7, 143, 0, 0, 7, 223, 0, 0, 8, 63, 0, 0, 8, 155, 0, 0, 8, 222, 0, 0, 9, 21, 0, 0, 9, 76, 0, 0, 9, 131, 0, 0, 9, 187, 0, 0, 10, 33, 0, 0, 10, 88, 0, 0, 10, 227, 0, 0, 11, 115] := by decide +kernel
theorem lb_3 : (cL_law.data.toList.drop 192).take 72 = [0, 0, 10, 227, 0, 0, 11, 115, 0, 0, 11, 184, 0, 0, 12, 52, 0, 0, 12, 108, 0, 0, 12, 171, 0, 0, 13, 10, 0, 0, 13, 66, 0, 0, 13, 122, 0, 0, 13, 166, 43, 42, 21, 4, 4, 96, 46, 42, 21, 4, 5, 96, 46, 133, 16, 32, 121, 42, 21, 4, 6, 96, 46, 133, 20, 0, 171, 127, 129, 42, 21, 4] := by decide +kernel
theorem lb_4 : (cL_law.data.toList.drop 256).take 72 = [20, 0, 171, 127, 129, 42, 21, 4, 7, 96, 46, 45, 184, 0, 173, 54, 5, 44, 42, 21, 4, 4, 96, 46, 42, 21, 4, 5, 96, 46, 133, 16, 32, 121, 42, 21, 4, 6, 96, 46, 133, 20, 0, 171, 127, 129, 42, 21, 4, 7, 96, 46, 182, 0, 178, 54, 6, 44, 182, 0, 179, 21, 5, 159, 0, 5, 3, 172, 21, 5, 154, 0] := by decide +kernel
theorem lb_5 : (cL_law.data.toList.drop 320).take 72 = [0, 5, 3, 172, 21, 5, 154, 0, 15, 45, 3, 47, 21, 6, 133, 148, 153, 0, 5, 3, 172, 167, 12, 134, 43, 42, 21, 4, 4, 96, 46, 146, 45, 184, 0, 182, 54, 5, 44, 42, 21, 4, 4, 96, 46, 146, 182, 0, 185, 54, 6, 44, 182, 0, 179, 21, 5, 159, 0, 5, 3, 172, 21, 5, 154, 0, 15, 45, 3, 47, 21, 6] := by decide +kernel
theorem lb_6 : (cL_law.data.toList.drop 384).take 72 = [154, 0, 15, 45, 3, 47, 21, 6, 133, 148, 153, 0, 5, 3, 172, 167, 12, 76, 43, 182, 0, 186, 44, 182, 0, 189, 159, 12, 65, 3, 172, 43, 42, 21, 4, 4, 96, 46, 45, 184, 0, 190, 54, 5, 44, 42, 21, 4, 4, 96, 46, 182, 0, 193, 54, 6, 44, 182, 0, 179, 21, 5, 159, 0, 5, 3, 172, 21, 5, 154, 0, 15] := by decide +kernel
theorem lb_7 : (cL_law.data.toList.drop 448).take 72 = [5, 3, 172, 21, 5, 154, 0, 15, 45, 3, 47, 21, 6, 133, 148, 153, 0, 5, 3, 172, 167, 12, 7, 43, 182, 0, 194, 44, 182, 0, 197, 159, 11, 252, 3, 172, 43, 42, 21, 4, 4, 96, 46, 45, 184, 0, 198, 54, 5, 44, 42, 21, 4, 4, 96, 46, 182, 0, 200, 55, 6, 44, 182, 0, 179, 21, 5, 159, 0, 5, 3, 172] := by decide +kernel
theorem lb_8 : (cL_law.data.toList.drop 512).take 72 = [179, 21, 5, 159, 0, 5, 3, 172, 21, 5, 154, 0, 14, 45, 3, 47, 22, 6, 148, 153, 0, 5, 3, 172, 167, 11, 195, 43, 42, 21, 4, 4, 96, 46, 45, 184, 0, 201, 54, 5, 44, 42, 21, 4, 4, 96, 46, 182, 0, 203, 54, 6, 44, 182, 0, 179, 21, 5, 159, 0, 5, 3, 172, 21, 5, 154, 0, 15, 45, 3, 47, 21] := by decide +kernel
theorem lb_9 : (cL_law.data.toList.drop 576).take 72 = [5, 154, 0, 15, 45, 3, 47, 21, 6, 133, 148, 153, 0, 5, 3, 172, 167, 11, 139, 43, 42, 21, 4, 4, 96, 46, 45, 184, 0, 204, 54, 5, 44, 42, 21, 4, 4, 96, 46, 182, 0, 206, 54, 6, 44, 182, 0, 179, 21, 5, 159, 0, 5, 3, 172, 21, 5, 154, 0, 15, 45, 3, 47, 21, 6, 133, 148, 153, 0, 5, 3, 172] := by decide +kernel
theorem lb_10 : (cL_law.data.toList.drop 640).take 72 = [6, 133, 148, 153, 0, 5, 3, 172, 167, 11, 83, 43, 42, 21, 4, 4, 96, 46, 42, 21, 4, 5, 96, 46, 42, 21, 4, 6, 96, 46, 146, 42, 21, 4, 7, 96, 46, 45, 184, 0, 207, 54, 5, 44, 42, 21, 4, 4, 96, 46, 42, 21, 4, 5, 96, 46, 42, 21, 4, 6, 96, 46, 146, 42, 21, 4, 7, 96, 46, 182, 0, 210] := by decide +kernel
theorem lb_11 : (cL_law.data.toList.drop 704).take 72 = [21, 4, 7, 96, 46, 182, 0, 210, 54, 6, 44, 182, 0, 179, 21, 5, 159, 0, 5, 3, 172, 21, 5, 154, 0, 15, 45, 3, 47, 21, 6, 133, 148, 153, 0, 5, 3, 172, 167, 10, 245, 43, 42, 21, 4, 4, 96, 46, 42, 21, 4, 5, 96, 46, 146, 42, 21, 4, 6, 96, 46, 45, 184, 0, 211, 54, 5, 44, 42, 21, 4, 4] := by decide +kernel
theorem lb_12 : (cL_law.data.toList.drop 768).take 72 = [211, 54, 5, 44, 42, 21, 4, 4, 96, 46, 42, 21, 4, 5, 96, 46, 146, 42, 21, 4, 6, 96, 46, 182, 0, 214, 54, 6, 44, 182, 0, 179, 21, 5, 159, 0, 5, 3, 172, 21, 5, 154, 0, 15, 45, 3, 47, 21, 6, 133, 148, 153, 0, 5, 3, 172, 167, 10, 163, 43, 42, 21, 4, 4, 96, 46, 42, 21, 4, 5, 96, 46] := by decide +kernel
theorem lb_13 : (cL_law.data.toList.drop 832).take 72 = [96, 46, 42, 21, 4, 5, 96, 46, 42, 21, 4, 6, 96, 46, 45, 184, 0, 215, 54, 5, 44, 42, 21, 4, 4, 96, 46, 42, 21, 4, 5, 96, 46, 42, 21, 4, 6, 96, 46, 182, 0, 218, 54, 6, 44, 182, 0, 179, 21, 5, 159, 0, 5, 3, 172, 21, 5, 154, 0, 15, 45, 3, 47, 21, 6, 133, 148, 153, 0, 5, 3, 172] := by decide +kernel
theorem lb_14 : (cL_law.data.toList.drop 896).take 72 = [6, 133, 148, 153, 0, 5, 3, 172, 167, 10, 83, 43, 42, 21, 4, 4, 96, 46, 42, 21, 4, 5, 96, 46, 42, 21, 4, 6, 96, 46, 146, 42, 21, 4, 7, 96, 46, 45, 184, 0, 219, 54, 5, 44, 42, 21, 4, 4, 96, 46, 42, 21, 4, 5, 96, 46, 42, 21, 4, 6, 96, 46, 146, 42, 21, 4, 7, 96, 46, 182, 0, 221] := by decide +kernel
theorem lb_15 : (cL_law.data.toList.drop 960).take 72 = [21, 4, 7, 96, 46, 182, 0, 221, 54, 6, 44, 182, 0, 179, 21, 5, 159, 0, 5, 3, 172, 21, 5, 154, 0, 15, 45, 3, 47, 21, 6, 133, 148, 153, 0, 5, 3, 172, 167, 9, 245, 43, 42, 21, 4, 4, 96, 46, 42, 21, 4, 5, 96, 46, 42, 21, 4, 6, 96, 46, 146, 42, 21, 4, 7, 96, 46, 45, 184, 0, 222, 54] := by decide +kernel
theorem lb_16 : (cL_law.data.toList.drop 1024).take 72 = [7, 96, 46, 45, 184, 0, 222, 54, 5, 44, 42, 21, 4, 4, 96, 46, 42, 21, 4, 5, 96, 46, 42, 21, 4, 6, 96, 46, 146, 42, 21, 4, 7, 96, 46, 182, 0, 224, 54, 6, 44, 182, 0, 179, 21, 5, 159, 0, 5, 3, 172, 21, 5, 154, 0, 15, 45, 3, 47, 21, 6, 133, 148, 153, 0, 5, 3, 172, 167, 9, 151, 43] := by decide +kernel
theorem lb_17 : (cL_law.data.toList.drop 1088).take 72 = [0, 5, 3, 172, 167, 9, 151, 43, 42, 21, 4, 4, 96, 46, 42, 21, 4, 5, 96, 46, 42, 21, 4, 6, 96, 46, 42, 21, 4, 7, 96, 46, 146, 42, 21, 4, 8, 96, 46, 45, 184, 0, 225, 54, 5, 44, 42, 21, 4, 4, 96, 46, 42, 21, 4, 5, 96, 46, 42, 21, 4, 6, 96, 46, 42, 21, 4, 7, 96, 46, 146, 42] := by decide +kernel
theorem lb_18 : (cL_law.data.toList.drop 1152).take 72 = [42, 21, 4, 7, 96, 46, 146, 42, 21, 4, 8, 96, 46, 182, 0, 228, 54, 6, 44, 182, 0, 179, 21, 5, 159, 0, 5, 3, 172, 21, 5, 154, 0, 15, 45, 3, 47, 21, 6, 133, 148, 153, 0, 5, 3, 172, 167, 9, 45, 43, 42, 21, 4, 4, 96, 46, 42, 21, 4, 5, 96, 46, 42, 21, 4, 6, 96, 46, 45, 184, 0, 229] := by decide +kernel
theorem lb_19 : (cL_law.data.toList.drop 1216).take 72 = [4, 6, 96, 46, 45, 184, 0, 229, 54, 5, 44, 42, 21, 4, 4, 96, 46, 42, 21, 4, 5, 96, 46, 42, 21, 4, 6, 96, 46, 182, 0, 231, 54, 6, 44, 182, 0, 179, 21, 5, 159, 0, 5, 3, 172, 21, 5, 154, 0, 15, 45, 3, 47, 21, 6, 133, 148, 153, 0, 5, 3, 172, 167, 8, 221, 43, 42, 21, 4, 4, 96, 46] := by decide +kernel
theorem lb_20 : (cL_law.data.toList.drop 1280).take 72 = [221, 43, 42, 21, 4, 4, 96, 46, 42, 21, 4, 5, 96, 46, 45, 184, 0, 232, 54, 5, 44, 42, 21, 4, 4, 96, 46, 42, 21, 4, 5, 96, 46, 182, 0, 235, 54, 6, 44, 182, 0, 179, 21, 5, 159, 0, 5, 3, 172, 21, 5, 154, 0, 15, 45, 3, 47, 21, 6, 133, 148, 153, 0, 5, 3, 172, 167, 8, 153, 43, 42, 21] := by decide +kernel
theorem lb_21 : (cL_law.data.toList.drop 1344).take 72 = [3, 172, 167, 8, 153, 43, 42, 21, 4, 4, 96, 46, 42, 21, 4, 5, 96, 46, 45, 184, 0, 236, 54, 5, 44, 42, 21, 4, 4, 96, 46, 42, 21, 4, 5, 96, 46, 182, 0, 238, 54, 6, 44, 182, 0, 179, 21, 5, 159, 0, 5, 3, 172, 21, 5, 154, 0, 22, 45, 3, 47, 21, 6, 153, 0, 7, 10, 167, 0, 4, 9, 148] := by decide +kernel
theorem lb_22 : (cL_law.data.toList.drop 1408).take 72 = [0, 7, 10, 167, 0, 4, 9, 148, 153, 0, 5, 3, 172, 167, 8, 78, 43, 42, 21, 4, 4, 96, 46, 42, 21, 4, 5, 96, 46, 42, 21, 4, 6, 96, 46, 146, 42, 21, 4, 7, 96, 46, 45, 184, 0, 239, 54, 5, 44, 42, 21, 4, 4, 96, 46, 42, 21, 4, 5, 96, 46, 42, 21, 4, 6, 96, 46, 146, 42, 21, 4, 7] := by decide +kernel
theorem lb_23 : (cL_law.data.toList.drop 1472).take 72 = [6, 96, 46, 146, 42, 21, 4, 7, 96, 46, 182, 0, 241, 54, 6, 44, 182, 0, 179, 21, 5, 159, 0, 5, 3, 172, 21, 5, 154, 0, 15, 45, 3, 47, 21, 6, 133, 148, 153, 0, 5, 3, 172, 167, 7, 240, 43, 42, 21, 4, 4, 96, 46, 42, 21, 4, 5, 96, 46, 42, 21, 4, 6, 96, 46, 45, 184, 0, 242, 54, 5, 44] := by decide +kernel
theorem lb_24 : (cL_law.data.toList.drop 1536).take 72 = [46, 45, 184, 0, 242, 54, 5, 44, 42, 21, 4, 4, 96, 46, 42, 21, 4, 5, 96, 46, 42, 21, 4, 6, 96, 46, 182, 0, 244, 54, 6, 44, 182, 0, 179, 21, 5, 159, 0, 5, 3, 172, 21, 5, 154, 0, 22, 45, 3, 47, 21, 6, 153, 0, 7, 10, 167, 0, 4, 9, 148, 153, 0, 5, 3, 172, 167, 7, 153, 43, 42, 21] := by decide +kernel
theorem lb_25 : (cL_law.data.toList.drop 1600).take 72 = [3, 172, 167, 7, 153, 43, 42, 21, 4, 4, 96, 46, 42, 21, 4, 5, 96, 46, 42, 21, 4, 6, 96, 46, 133, 16, 32, 121, 42, 21, 4, 7, 96, 46, 133, 20, 0, 171, 127, 129, 45, 184, 0, 245, 54, 5, 44, 42, 21, 4, 4, 96, 46, 42, 21, 4, 5, 96, 46, 42, 21, 4, 6, 96, 46, 133, 16, 32, 121, 42, 21, 4] := by decide +kernel
theorem lb_26 : (cL_law.data.toList.drop 1664).take 72 = [46, 133, 16, 32, 121, 42, 21, 4, 7, 96, 46, 133, 20, 0, 171, 127, 129, 182, 0, 248, 55, 6, 44, 182, 0, 179, 21, 5, 159, 0, 5, 3, 172, 21, 5, 154, 0, 14, 45, 3, 47, 22, 6, 148, 153, 0, 5, 3, 172, 167, 7, 42, 43, 42, 21, 4, 4, 96, 46, 42, 21, 4, 5, 96, 46, 42, 21, 4, 6, 96, 46, 133] := by decide +kernel
theorem lb_27 : (cL_law.data.toList.drop 1728).take 72 = [46, 42, 21, 4, 6, 96, 46, 133, 16, 32, 121, 42, 21, 4, 7, 96, 46, 133, 20, 0, 171, 127, 129, 45, 184, 0, 249, 54, 5, 44, 42, 21, 4, 4, 96, 46, 42, 21, 4, 5, 96, 46, 42, 21, 4, 6, 96, 46, 133, 16, 32, 121, 42, 21, 4, 7, 96, 46, 133, 20, 0, 171, 127, 129, 182, 0, 251, 55, 6, 44, 182, 0] := by decide +kernel
theorem lb_28 : (cL_law.data.toList.drop 1792).take 72 = [182, 0, 251, 55, 6, 44, 182, 0, 179, 21, 5, 159, 0, 5, 3, 172, 21, 5, 154, 0, 14, 45, 3, 47, 22, 6, 148, 153, 0, 5, 3, 172, 167, 6, 187, 43, 42, 21, 4, 4, 96, 46, 42, 21, 4, 5, 96, 46, 42, 21, 4, 6, 96, 46, 45, 184, 0, 252, 54, 5, 44, 42, 21, 4, 4, 96, 46, 42, 21, 4, 5, 96] := by decide +kernel
theorem lb_29 : (cL_law.data.toList.drop 1856).take 72 = [4, 96, 46, 42, 21, 4, 5, 96, 46, 42, 21, 4, 6, 96, 46, 182, 0, 254, 54, 6, 44, 182, 0, 179, 21, 5, 159, 0, 5, 3, 172, 21, 5, 154, 0, 15, 45, 3, 47, 21, 6, 133, 148, 153, 0, 5, 3, 172, 167, 6, 107, 43, 42, 21, 4, 4, 96, 46, 42, 21, 4, 5, 96, 46, 45, 184, 0, 255, 54, 5, 44, 42] := by decide +kernel
theorem lb_30 : (cL_law.data.toList.drop 1920).take 72 = [45, 184, 0, 255, 54, 5, 44, 42, 21, 4, 4, 96, 46, 42, 21, 4, 5, 96, 46, 182, 1, 1, 54, 6, 44, 182, 0, 179, 21, 5, 159, 0, 5, 3, 172, 21, 5, 154, 0, 15, 45, 3, 47, 21, 6, 133, 148, 153, 0, 5, 3, 172, 167, 6, 39, 43, 42, 21, 4, 4, 96, 46, 42, 21, 4, 5, 96, 46, 42, 21, 4, 6] := by decide +kernel
theorem lb_31 : (cL_law.data.toList.drop 1984).take 72 = [4, 5, 96, 46, 42, 21, 4, 6, 96, 46, 45, 184, 1, 2, 54, 5, 44, 42, 21, 4, 4, 96, 46, 42, 21, 4, 5, 96, 46, 42, 21, 4, 6, 96, 46, 182, 1, 4, 54, 6, 44, 182, 0, 179, 21, 5, 159, 0, 5, 3, 172, 21, 5, 154, 0, 15, 45, 3, 47, 21, 6, 133, 148, 153, 0, 5, 3, 172, 167, 5, 215, 43] := by decide +kernel
theorem lb_32 : (cL_law.data.toList.drop 2048).take 72 = [0, 5, 3, 172, 167, 5, 215, 43, 42, 21, 4, 4, 96, 46, 42, 21, 4, 5, 96, 46, 42, 21, 4, 6, 96, 46, 153, 0, 7, 4, 167, 0, 4, 3, 45, 184, 1, 5, 54, 5, 44, 42, 21, 4, 4, 96, 46, 42, 21, 4, 5, 96, 46, 42, 21, 4, 6, 96, 46, 153, 0, 7, 4, 167, 0, 4, 3, 182, 1, 8, 54, 6] := by decide +kernel
theorem lb_33 : (cL_law.data.toList.drop 2112).take 72 = [0, 4, 3, 182, 1, 8, 54, 6, 44, 182, 0, 179, 21, 5, 159, 0, 5, 3, 172, 21, 5, 154, 0, 15, 45, 3, 47, 21, 6, 133, 148, 153, 0, 5, 3, 172, 167, 5, 119, 43, 42, 21, 4, 4, 96, 46, 42, 21, 4, 5, 96, 46, 42, 21, 4, 6, 96, 46, 42, 21, 4, 7, 96, 46, 45, 184, 1, 9, 54, 5, 44, 42] := by decide +kernel
theorem lb_34 : (cL_law.data.toList.drop 2176).take 72 = [45, 184, 1, 9, 54, 5, 44, 42, 21, 4, 4, 96, 46, 42, 21, 4, 5, 96, 46, 42, 21, 4, 6, 96, 46, 42, 21, 4, 7, 96, 46, 182, 1, 12, 54, 6, 44, 182, 0, 179, 21, 5, 159, 0, 5, 3, 172, 21, 5, 154, 0, 15, 45, 3, 47, 21, 6, 133, 148, 153, 0, 5, 3, 172, 167, 5, 27, 43, 42, 21, 4, 4] := by decide +kernel
theorem lb_35 : (cL_law.data.toList.drop 2240).take 72 = [167, 5, 27, 43, 42, 21, 4, 4, 96, 46, 42, 21, 4, 5, 96, 46, 45, 184, 1, 13, 54, 5, 44, 42, 21, 4, 4, 96, 46, 42, 21, 4, 5, 96, 46, 182, 1, 15, 55, 6, 44, 182, 0, 179, 21, 5, 159, 0, 5, 3, 172, 21, 5, 154, 0, 14, 45, 3, 47, 22, 6, 148, 153, 0, 5, 3, 172, 167, 4, 216, 43, 42] := by decide +kernel
theorem lb_36 : (cL_law.data.toList.drop 2304).take 72 = [5, 3, 172, 167, 4, 216, 43, 42, 21, 4, 4, 96, 46, 45, 184, 1, 16, 54, 5, 44, 42, 21, 4, 4, 96, 46, 182, 1, 18, 55, 6, 44, 182, 0, 179, 21, 5, 159, 0, 5, 3, 172, 21, 5, 154, 0, 14, 45, 3, 47, 22, 6, 148, 153, 0, 5, 3, 172, 167, 4, 161, 43, 42, 21, 4, 4, 96, 46, 45, 184, 1, 19] := by decide +kernel
theorem lb_37 : (cL_law.data.toList.drop 2368).take 72 = [4, 4, 96, 46, 45, 184, 1, 19, 54, 5, 44, 42, 21, 4, 4, 96, 46, 182, 1, 21, 55, 6, 44, 182, 0, 179, 21, 5, 159, 0, 5, 3, 172, 21, 5, 154, 0, 14, 45, 3, 47, 22, 6, 148, 153, 0, 5, 3, 172, 167, 4, 106, 43, 42, 21, 4, 4, 96, 46, 45, 184, 1, 22, 54, 5, 44, 42, 21, 4, 4, 96, 46] := by decide +kernel
theorem lb_38 : (cL_law.data.toList.drop 2432).take 72 = [5, 44, 42, 21, 4, 4, 96, 46, 182, 1, 24, 55, 6, 44, 182, 0, 179, 21, 5, 159, 0, 5, 3, 172, 21, 5, 154, 0, 14, 45, 3, 47, 22, 6, 148, 153, 0, 5, 3, 172, 167, 4, 51, 43, 42, 21, 4, 4, 96, 46, 45, 184, 1, 25, 54, 5, 44, 42, 21, 4, 4, 96, 46, 182, 1, 27, 54, 6, 44, 182, 0, 179] := by decide +kernel
theorem lb_39 : (cL_law.data.toList.drop 2496).take 72 = [1, 27, 54, 6, 44, 182, 0, 179, 21, 5, 159, 0, 5, 3, 172, 21, 5, 154, 0, 15, 45, 3, 47, 21, 6, 133, 148, 153, 0, 5, 3, 172, 167, 3, 251, 43, 42, 21, 4, 4, 96, 46, 133, 16, 32, 121, 42, 21, 4, 5, 96, 46, 133, 20, 0, 171, 127, 129, 42, 21, 4, 6, 96, 46, 146, 45, 184, 1, 28, 54, 5, 44] := by decide +kernel
theorem lb_40 : (cL_law.data.toList.drop 2560).take 72 = [146, 45, 184, 1, 28, 54, 5, 44, 42, 21, 4, 4, 96, 46, 133, 16, 32, 121, 42, 21, 4, 5, 96, 46, 133, 20, 0, 171, 127, 129, 42, 21, 4, 6, 96, 46, 146, 182, 1, 31, 54, 6, 44, 182, 0, 179, 21, 5, 159, 0, 5, 3, 172, 21, 5, 154, 0, 15, 45, 3, 47, 21, 6, 133, 148, 153, 0, 5, 3, 172, 167, 3] := by decide +kernel
theorem lb_41 : (cL_law.data.toList.drop 2624).take 72 = [148, 153, 0, 5, 3, 172, 167, 3, 149, 43, 42, 21, 4, 4, 96, 46, 45, 184, 1, 32, 54, 5, 44, 42, 21, 4, 4, 96, 46, 182, 1, 34, 55, 6, 44, 182, 0, 179, 21, 5, 159, 0, 5, 3, 172, 21, 5, 154, 0, 14, 45, 3, 47, 22, 6, 148, 153, 0, 5, 3, 172, 167, 3, 94, 43, 42, 21, 4, 4, 96, 46, 133] := by decide +kernel
theorem lb_42 : (cL_law.data.toList.drop 2688).take 72 = [43, 42, 21, 4, 4, 96, 46, 133, 16, 32, 121, 42, 21, 4, 5, 96, 46, 133, 20, 0, 171, 127, 129, 42, 21, 4, 6, 96, 46, 42, 21, 4, 7, 96, 46, 42, 21, 4, 8, 96, 46, 42, 21, 4, 16, 6, 96, 46, 146, 45, 184, 1, 35, 54, 5, 44, 42, 21, 4, 4, 96, 46, 133, 16, 32, 121, 42, 21, 4, 5, 96, 46] := by decide +kernel
theorem lb_43 : (cL_law.data.toList.drop 2752).take 72 = [32, 121, 42, 21, 4, 5, 96, 46, 133, 20, 0, 171, 127, 129, 42, 21, 4, 6, 96, 46, 42, 21, 4, 7, 96, 46, 42, 21, 4, 8, 96, 46, 42, 21, 4, 16, 6, 96, 46, 146, 182, 1, 38, 55, 6, 44, 182, 0, 179, 21, 5, 159, 0, 5, 3, 172, 21, 5, 154, 0, 14, 45, 3, 47, 22, 6, 148, 153, 0, 5, 3, 172] := by decide +kernel
theorem lb_44 : (cL_law.data.toList.drop 2816).take 72 = [22, 6, 148, 153, 0, 5, 3, 172, 167, 2, 211, 43, 42, 21, 4, 4, 96, 46, 133, 16, 32, 121, 42, 21, 4, 5, 96, 46, 133, 20, 0, 171, 127, 129, 42, 21, 4, 6, 96, 46, 42, 21, 4, 7, 96, 46, 133, 16, 32, 121, 42, 21, 4, 8, 96, 46, 133, 20, 0, 171, 127, 129, 45, 184, 1, 39, 54, 5, 44, 42, 21, 4] := by decide +kernel
theorem lb_45 : (cL_law.data.toList.drop 2880).take 72 = [1, 39, 54, 5, 44, 42, 21, 4, 4, 96, 46, 133, 16, 32, 121, 42, 21, 4, 5, 96, 46, 133, 20, 0, 171, 127, 129, 42, 21, 4, 6, 96, 46, 42, 21, 4, 7, 96, 46, 133, 16, 32, 121, 42, 21, 4, 8, 96, 46, 133, 20, 0, 171, 127, 129, 182, 1, 42, 54, 6, 44, 182, 0, 179, 21, 5, 159, 0, 5, 3, 172, 21] := by decide +kernel
theorem lb_46 : (cL_law.data.toList.drop 2944).take 72 = [21, 5, 159, 0, 5, 3, 172, 21, 5, 154, 0, 15, 45, 3, 47, 21, 6, 133, 148, 153, 0, 5, 3, 172, 167, 2, 67, 43, 42, 21, 4, 4, 96, 46, 42, 21, 4, 5, 96, 46, 146, 45, 184, 1, 43, 54, 5, 44, 42, 21, 4, 4, 96, 46, 42, 21, 4, 5, 96, 46, 146, 182, 1, 46, 55, 6, 44, 182, 0, 179, 21, 5] := by decide +kernel
theorem lb_47 : (cL_law.data.toList.drop 3008).take 72 = [55, 6, 44, 182, 0, 179, 21, 5, 159, 0, 5, 3, 172, 21, 5, 154, 0, 14, 45, 3, 47, 22, 6, 148, 153, 0, 5, 3, 172, 167, 1, 254, 43, 42, 21, 4, 4, 96, 46, 42, 21, 4, 5, 96, 46, 42, 21, 4, 6, 96, 46, 42, 21, 4, 7, 96, 46, 133, 16, 32, 121, 42, 21, 4, 8, 96, 46, 133, 20, 0, 171, 127] := by decide +kernel
theorem lb_48 : (cL_law.data.toList.drop 3072).take 72 = [8, 96, 46, 133, 20, 0, 171, 127, 129, 45, 184, 1, 47, 54, 5, 44, 42, 21, 4, 4, 96, 46, 42, 21, 4, 5, 96, 46, 42, 21, 4, 6, 96, 46, 42, 21, 4, 7, 96, 46, 133, 16, 32, 121, 42, 21, 4, 8, 96, 46, 133, 20, 0, 171, 127, 129, 182, 1, 50, 54, 6, 44, 182, 0, 179, 21, 5, 159, 0, 5, 3, 172] := by decide +kernel
theorem lb_49 : (cL_law.data.toList.drop 3136).take 72 = [179, 21, 5, 159, 0, 5, 3, 172, 21, 5, 154, 0, 15, 45, 3, 47, 21, 6, 133, 148, 153, 0, 5, 3, 172, 167, 1, 130, 43, 42, 21, 4, 4, 96, 46, 45, 184, 1, 51, 54, 5, 44, 42, 21, 4, 4, 96, 46, 182, 1, 53, 54, 6, 44, 182, 0, 179, 21, 5, 159, 0, 5, 3, 172, 21, 5, 154, 0, 15, 45, 3, 47] := by decide +kernel
theorem lb_50 : (cL_law.data.toList.drop 3200).take 72 = [21, 5, 154, 0, 15, 45, 3, 47, 21, 6, 133, 148, 153, 0, 5, 3, 172, 167, 1, 74, 43, 42, 21, 4, 4, 96, 46, 45, 184, 1, 54, 54, 5, 44, 42, 21, 4, 4, 96, 46, 182, 1, 56, 54, 6, 44, 182, 0, 179, 21, 5, 159, 0, 5, 3, 172, 21, 5, 154, 0, 22, 45, 3, 47, 21, 6, 153, 0, 7, 10, 167, 0] := by decide +kernel
theorem lb_51 : (cL_law.data.toList.drop 3264).take 72 = [21, 6, 153, 0, 7, 10, 167, 0, 4, 9, 148, 153, 0, 5, 3, 172, 167, 1, 11, 43, 42, 21, 4, 4, 96, 46, 42, 21, 4, 5, 96, 46, 42, 21, 4, 6, 96, 46, 153, 0, 7, 4, 167, 0, 4, 3, 45, 184, 1, 57, 54, 5, 44, 42, 21, 4, 4, 96, 46, 42, 21, 4, 5, 96, 46, 42, 21, 4, 6, 96, 46, 153] := by decide +kernel
theorem lb_52 : (cL_law.data.toList.drop 3328).take 72 = [46, 42, 21, 4, 6, 96, 46, 153, 0, 7, 4, 167, 0, 4, 3, 182, 1, 59, 55, 6, 44, 182, 0, 179, 21, 5, 159, 0, 5, 3, 172, 21, 5, 154, 0, 14, 45, 3, 47, 22, 6, 148, 153, 0, 5, 3, 172, 167, 0, 172, 43, 42, 21, 4, 4, 96, 46, 45, 184, 1, 60, 54, 5, 44, 42, 21, 4, 4, 96, 46, 182, 1] := by decide +kernel
theorem lb_53 : (cL_law.data.toList.drop 3392).take 72 = [42, 21, 4, 4, 96, 46, 182, 1, 62, 54, 6, 44, 182, 0, 179, 21, 5, 159, 0, 5, 3, 172, 21, 5, 154, 0, 15, 45, 3, 47, 21, 6, 133, 148, 153, 0, 5, 3, 172, 167, 0, 116, 43, 42, 21, 4, 4, 96, 46, 45, 184, 1, 63, 54, 5, 44, 42, 21, 4, 4, 96, 46, 182, 1, 65, 54, 6, 44, 182, 0, 179, 21] := by decide +kernel
theorem lb_54 : (cL_law.data.toList.drop 3456).take 72 = [65, 54, 6, 44, 182, 0, 179, 21, 5, 159, 0, 5, 3, 172, 21, 5, 154, 0, 15, 45, 3, 47, 21, 6, 133, 148, 153, 0, 5, 3, 172, 167, 0, 60, 43, 45, 184, 1, 66, 54, 5, 44, 182, 1, 69, 54, 6, 44, 182, 0, 179, 21, 5, 159, 0, 5, 3, 172, 21, 5, 154, 0, 15, 45, 3, 47, 21, 6, 133, 148, 153, 0] := by decide +kernel
theorem lb_55 : (cL_law.data.toList.drop 3520).take 72 = [3, 47, 21, 6, 133, 148, 153, 0, 5, 3, 172, 167, 0, 16, 43, 182, 1, 70, 44, 182, 1, 74, 159, 0, 5, 3, 172, 132, 4, 7, 167, 242, 57, 4, 172] := by decide +kernel
theorem db_187 {c : ByteArray} {p x y : Nat} (h : Bt c p 187) (h1 : Bt c (p + 1) x) (h2 : Bt c (p + 2) y) : decode c p = .ok (.new (x * 256 + y), 3) := fin_b (q := p + 3) (bind_b (u1_b h) (bind_b (u2_b h1 h2) rfl)) (by omega)
theorem db_89 {c : ByteArray} {p : Nat} (h : Bt c p 89) : decode c p = .ok (.dup, 1) := fin_b (q := p + 1) (bind_b (u1_b h) rfl) (by omega)
theorem db_183 {c : ByteArray} {p x y : Nat} (h : Bt c p 183) (h1 : Bt c (p + 1) x) (h2 : Bt c (p + 2) y) : decode c p = .ok (.invokespecial (x * 256 + y), 3) := fin_b (q := p + 3) (bind_b (u1_b h) (bind_b (u2_b h1 h2) rfl)) (by omega)
theorem db_76 {c : ByteArray} {p : Nat} (h : Bt c p 76) : decode c p = .ok (.astore_n 1, 1) := fin_b (q := p + 1) (bind_b (u1_b h) rfl) (by omega)
theorem db_77 {c : ByteArray} {p : Nat} (h : Bt c p 77) : decode c p = .ok (.astore_n 2, 1) := fin_b (q := p + 1) (bind_b (u1_b h) rfl) (by omega)
theorem db_4 {c : ByteArray} {p : Nat} (h : Bt c p 4) : decode c p = .ok (.iconst 1, 1) := fin_b (q := p + 1) (bind_b (u1_b h) rfl) (by omega)
theorem db_188 {c : ByteArray} {p : Nat} (h : Bt c p 188) (h1 : Bt c (p + 1) 11) : decode c p = .ok (.newarray .long, 2) := fin_b (q := p + 2) (bind_b (u1_b h) (bind_b (u1_b h1) rfl)) (by omega)
theorem db_78 {c : ByteArray} {p : Nat} (h : Bt c p 78) : decode c p = .ok (.astore_n 3, 1) := fin_b (q := p + 1) (bind_b (u1_b h) rfl) (by omega)
theorem db_3 {c : ByteArray} {p : Nat} (h : Bt c p 3) : decode c p = .ok (.iconst 0, 1) := fin_b (q := p + 1) (bind_b (u1_b h) rfl) (by omega)
theorem db_54 {c : ByteArray} {p x : Nat} (h : Bt c p 54) (h1 : Bt c (p + 1) x) : decode c p = .ok (.istore x, 2) := fin_b (q := p + 2) (bind_b (u1_b h) (bind_b (u1_b h1) rfl)) (by omega)
theorem db_21 {c : ByteArray} {p x : Nat} (h : Bt c p 21) (h1 : Bt c (p + 1) x) : decode c p = .ok (.iload x, 2) := fin_b (q := p + 2) (bind_b (u1_b h) (bind_b (u1_b h1) rfl)) (by omega)
theorem db_42 {c : ByteArray} {p : Nat} (h : Bt c p 42) : decode c p = .ok (.aload_n 0, 1) := fin_b (q := p + 1) (bind_b (u1_b h) rfl) (by omega)
theorem db_190 {c : ByteArray} {p : Nat} (h : Bt c p 190) : decode c p = .ok (.arraylength, 1) := fin_b (q := p + 1) (bind_b (u1_b h) rfl) (by omega)
theorem db_16 {c : ByteArray} {p x : Nat} (h : Bt c p 16) (h1 : Bt c (p + 1) x) : decode c p = .ok (.bipush (Reader.signed 8 x), 2) := fin_b (q := p + 2) (bind_b (u1_b h) (bind_b (s1_b h1) rfl)) (by omega)
theorem db_100 {c : ByteArray} {p : Nat} (h : Bt c p 100) : decode c p = .ok (.isub, 1) := fin_b (q := p + 1) (bind_b (u1_b h) rfl) (by omega)
theorem db_163 {c : ByteArray} {p x y : Nat} (h : Bt c p 163) (h1 : Bt c (p + 1) x) (h2 : Bt c (p + 2) y) {z : Int} (h3 : Reader.signed 16 (x * 256 + y) = z) : decode c p = .ok (.if_icmp .gt z, 3) := h3 ▸ fin_b (q := p + 3) (bind_b (u1_b h) (bind_b (s2_b h1 h2) rfl)) (by omega)
theorem db_46 {c : ByteArray} {p : Nat} (h : Bt c p 46) : decode c p = .ok (.iaload, 1) := fin_b (q := p + 1) (bind_b (u1_b h) rfl) (by omega)
theorem db_126 {c : ByteArray} {p : Nat} (h : Bt c p 126) : decode c p = .ok (.iand, 1) := fin_b (q := p + 1) (bind_b (u1_b h) rfl) (by omega)
theorem db_43 {c : ByteArray} {p : Nat} (h : Bt c p 43) : decode c p = .ok (.aload_n 1, 1) := fin_b (q := p + 1) (bind_b (u1_b h) rfl) (by omega)
theorem db_96 {c : ByteArray} {p : Nat} (h : Bt c p 96) : decode c p = .ok (.iadd, 1) := fin_b (q := p + 1) (bind_b (u1_b h) rfl) (by omega)
theorem db_5 {c : ByteArray} {p : Nat} (h : Bt c p 5) : decode c p = .ok (.iconst 2, 1) := fin_b (q := p + 1) (bind_b (u1_b h) rfl) (by omega)
theorem db_133 {c : ByteArray} {p : Nat} (h : Bt c p 133) : decode c p = .ok (.i2l, 1) := fin_b (q := p + 1) (bind_b (u1_b h) rfl) (by omega)
theorem db_121 {c : ByteArray} {p : Nat} (h : Bt c p 121) : decode c p = .ok (.lshl, 1) := fin_b (q := p + 1) (bind_b (u1_b h) rfl) (by omega)
theorem db_6 {c : ByteArray} {p : Nat} (h : Bt c p 6) : decode c p = .ok (.iconst 3, 1) := fin_b (q := p + 1) (bind_b (u1_b h) rfl) (by omega)
theorem db_20 {c : ByteArray} {p x y : Nat} (h : Bt c p 20) (h1 : Bt c (p + 1) x) (h2 : Bt c (p + 2) y) : decode c p = .ok (.ldc2_w (x * 256 + y), 3) := fin_b (q := p + 3) (bind_b (u1_b h) (bind_b (u2_b h1 h2) rfl)) (by omega)
theorem db_127 {c : ByteArray} {p : Nat} (h : Bt c p 127) : decode c p = .ok (.land, 1) := fin_b (q := p + 1) (bind_b (u1_b h) rfl) (by omega)
theorem db_129 {c : ByteArray} {p : Nat} (h : Bt c p 129) : decode c p = .ok (.lor, 1) := fin_b (q := p + 1) (bind_b (u1_b h) rfl) (by omega)
theorem db_7 {c : ByteArray} {p : Nat} (h : Bt c p 7) : decode c p = .ok (.iconst 4, 1) := fin_b (q := p + 1) (bind_b (u1_b h) rfl) (by omega)
theorem db_45 {c : ByteArray} {p : Nat} (h : Bt c p 45) : decode c p = .ok (.aload_n 3, 1) := fin_b (q := p + 1) (bind_b (u1_b h) rfl) (by omega)
theorem db_184 {c : ByteArray} {p x y : Nat} (h : Bt c p 184) (h1 : Bt c (p + 1) x) (h2 : Bt c (p + 2) y) : decode c p = .ok (.invokestatic (x * 256 + y), 3) := fin_b (q := p + 3) (bind_b (u1_b h) (bind_b (u2_b h1 h2) rfl)) (by omega)
theorem db_44 {c : ByteArray} {p : Nat} (h : Bt c p 44) : decode c p = .ok (.aload_n 2, 1) := fin_b (q := p + 1) (bind_b (u1_b h) rfl) (by omega)
theorem db_182 {c : ByteArray} {p x y : Nat} (h : Bt c p 182) (h1 : Bt c (p + 1) x) (h2 : Bt c (p + 2) y) : decode c p = .ok (.invokevirtual (x * 256 + y), 3) := fin_b (q := p + 3) (bind_b (u1_b h) (bind_b (u2_b h1 h2) rfl)) (by omega)
theorem db_159 {c : ByteArray} {p x y : Nat} (h : Bt c p 159) (h1 : Bt c (p + 1) x) (h2 : Bt c (p + 2) y) {z : Int} (h3 : Reader.signed 16 (x * 256 + y) = z) : decode c p = .ok (.if_icmp .eq z, 3) := h3 ▸ fin_b (q := p + 3) (bind_b (u1_b h) (bind_b (s2_b h1 h2) rfl)) (by omega)
theorem db_172 {c : ByteArray} {p : Nat} (h : Bt c p 172) : decode c p = .ok (.ireturn, 1) := fin_b (q := p + 1) (bind_b (u1_b h) rfl) (by omega)
theorem db_154 {c : ByteArray} {p x y : Nat} (h : Bt c p 154) (h1 : Bt c (p + 1) x) (h2 : Bt c (p + 2) y) {z : Int} (h3 : Reader.signed 16 (x * 256 + y) = z) : decode c p = .ok (.ifCond .ne z, 3) := h3 ▸ fin_b (q := p + 3) (bind_b (u1_b h) (bind_b (s2_b h1 h2) rfl)) (by omega)
theorem db_47 {c : ByteArray} {p : Nat} (h : Bt c p 47) : decode c p = .ok (.laload, 1) := fin_b (q := p + 1) (bind_b (u1_b h) rfl) (by omega)
theorem db_148 {c : ByteArray} {p : Nat} (h : Bt c p 148) : decode c p = .ok (.lcmp, 1) := fin_b (q := p + 1) (bind_b (u1_b h) rfl) (by omega)
theorem db_153 {c : ByteArray} {p x y : Nat} (h : Bt c p 153) (h1 : Bt c (p + 1) x) (h2 : Bt c (p + 2) y) {z : Int} (h3 : Reader.signed 16 (x * 256 + y) = z) : decode c p = .ok (.ifCond .eq z, 3) := h3 ▸ fin_b (q := p + 3) (bind_b (u1_b h) (bind_b (s2_b h1 h2) rfl)) (by omega)
theorem db_167 {c : ByteArray} {p x y : Nat} (h : Bt c p 167) (h1 : Bt c (p + 1) x) (h2 : Bt c (p + 2) y) {z : Int} (h3 : Reader.signed 16 (x * 256 + y) = z) : decode c p = .ok (.goto z, 3) := h3 ▸ fin_b (q := p + 3) (bind_b (u1_b h) (bind_b (s2_b h1 h2) rfl)) (by omega)
theorem db_146 {c : ByteArray} {p : Nat} (h : Bt c p 146) : decode c p = .ok (.i2c, 1) := fin_b (q := p + 1) (bind_b (u1_b h) rfl) (by omega)
theorem db_55 {c : ByteArray} {p x : Nat} (h : Bt c p 55) (h1 : Bt c (p + 1) x) : decode c p = .ok (.lstore x, 2) := fin_b (q := p + 2) (bind_b (u1_b h) (bind_b (u1_b h1) rfl)) (by omega)
theorem db_22 {c : ByteArray} {p x : Nat} (h : Bt c p 22) (h1 : Bt c (p + 1) x) : decode c p = .ok (.lload x, 2) := fin_b (q := p + 2) (bind_b (u1_b h) (bind_b (u1_b h1) rfl)) (by omega)
theorem db_8 {c : ByteArray} {p : Nat} (h : Bt c p 8) : decode c p = .ok (.iconst 5, 1) := fin_b (q := p + 1) (bind_b (u1_b h) rfl) (by omega)
theorem db_10 {c : ByteArray} {p : Nat} (h : Bt c p 10) : decode c p = .ok (.lconst 1, 1) := fin_b (q := p + 1) (bind_b (u1_b h) rfl) (by omega)
theorem db_9 {c : ByteArray} {p : Nat} (h : Bt c p 9) : decode c p = .ok (.lconst 0, 1) := fin_b (q := p + 1) (bind_b (u1_b h) rfl) (by omega)
theorem db_132 {c : ByteArray} {p x y : Nat} (h : Bt c p 132) (h1 : Bt c (p + 1) x) (h2 : Bt c (p + 2) y) : decode c p = .ok (.iinc x (Reader.signed 8 y), 3) := fin_b (q := p + 3) (bind_b (u1_b h) (bind_b (u1_b h1) (bind_b (s1_b h2) rfl))) (by omega)
theorem dL_law_0 : decode cL_law 0 = .ok (.new 8, 3) := db_187 (bt_of (i := 0) lb_0 rfl rfl (by decide)) (bt_of (i := 1) lb_0 rfl rfl (by decide)) (bt_of (i := 2) lb_0 rfl rfl (by decide))
theorem dL_law_3 : decode cL_law 3 = .ok (.dup, 1) := db_89 (bt_of (i := 3) lb_0 rfl rfl (by decide))
theorem dL_law_4 : decode cL_law 4 = .ok (.invokespecial 167, 3) := db_183 (bt_of (i := 4) lb_0 rfl rfl (by decide)) (bt_of (i := 5) lb_0 rfl rfl (by decide)) (bt_of (i := 6) lb_0 rfl rfl (by decide))
theorem dL_law_7 : decode cL_law 7 = .ok (.astore_n 1, 1) := db_76 (bt_of (i := 7) lb_0 rfl rfl (by decide))
theorem dL_law_8 : decode cL_law 8 = .ok (.new 168, 3) := db_187 (bt_of (i := 8) lb_0 rfl rfl (by decide)) (bt_of (i := 9) lb_0 rfl rfl (by decide)) (bt_of (i := 10) lb_0 rfl rfl (by decide))
theorem dL_law_11 : decode cL_law 11 = .ok (.dup, 1) := db_89 (bt_of (i := 11) lb_0 rfl rfl (by decide))
theorem dL_law_12 : decode cL_law 12 = .ok (.invokespecial 170, 3) := db_183 (bt_of (i := 12) lb_0 rfl rfl (by decide)) (bt_of (i := 13) lb_0 rfl rfl (by decide)) (bt_of (i := 14) lb_0 rfl rfl (by decide))
theorem dL_law_15 : decode cL_law 15 = .ok (.astore_n 2, 1) := db_77 (bt_of (i := 15) lb_0 rfl rfl (by decide))
theorem dL_law_16 : decode cL_law 16 = .ok (.iconst 1, 1) := db_4 (bt_of (i := 16) lb_0 rfl rfl (by decide))
theorem dL_law_17 : decode cL_law 17 = .ok (.newarray .long, 2) := db_188 (bt_of (i := 17) lb_0 rfl rfl (by decide)) (bt_of (i := 18) lb_0 rfl rfl (by decide))
theorem dL_law_19 : decode cL_law 19 = .ok (.astore_n 3, 1) := db_78 (bt_of (i := 19) lb_0 rfl rfl (by decide))
theorem dL_law_20 : decode cL_law 20 = .ok (.iconst 0, 1) := db_3 (bt_of (i := 20) lb_0 rfl rfl (by decide))
theorem dL_law_21 : decode cL_law 21 = .ok (.istore 4, 2) := db_54 (bt_of (i := 21) lb_0 rfl rfl (by decide)) (bt_of (i := 22) lb_0 rfl rfl (by decide))
theorem dL_law_23 : decode cL_law 23 = .ok (.iload 4, 2) := db_21 (bt_of (i := 23) lb_0 rfl rfl (by decide)) (bt_of (i := 24) lb_0 rfl rfl (by decide))
theorem dL_law_25 : decode cL_law 25 = .ok (.aload_n 0, 1) := db_42 (bt_of (i := 25) lb_0 rfl rfl (by decide))
theorem dL_law_26 : decode cL_law 26 = .ok (.arraylength, 1) := db_190 (bt_of (i := 26) lb_0 rfl rfl (by decide))
theorem dL_law_27 : decode cL_law 27 = .ok (.bipush 7, 2) := db_16 (bt_of (i := 27) lb_0 rfl rfl (by decide)) (bt_of (i := 28) lb_0 rfl rfl (by decide))
theorem dL_law_29 : decode cL_law 29 = .ok (.isub, 1) := db_100 (bt_of (i := 29) lb_0 rfl rfl (by decide))
theorem dL_law_30 : decode cL_law 30 = .ok (.if_icmp .gt 3523, 3) := db_163 (bt_of (i := 30) lb_0 rfl rfl (by decide)) (bt_of (i := 31) lb_0 rfl rfl (by decide)) (bt_of (i := 32) lb_0 rfl rfl (by decide)) (by decide +kernel)
theorem dL_law_33 : decode cL_law 33 = .ok (.aload_n 0, 1) := db_42 (bt_of (i := 33) lb_0 rfl rfl (by decide))
theorem dL_law_34 : decode cL_law 34 = .ok (.iload 4, 2) := db_21 (bt_of (i := 34) lb_0 rfl rfl (by decide)) (bt_of (i := 35) lb_0 rfl rfl (by decide))
theorem dL_law_36 : decode cL_law 36 = .ok (.iaload, 1) := db_46 (bt_of (i := 36) lb_0 rfl rfl (by decide))
theorem dL_law_37 : decode cL_law 37 = .ok (.bipush 63, 2) := db_16 (bt_of (i := 37) lb_0 rfl rfl (by decide)) (bt_of (i := 38) lb_0 rfl rfl (by decide))
theorem dL_law_39 : decode cL_law 39 = .ok (.iand, 1) := db_126 (bt_of (i := 39) lb_0 rfl rfl (by decide))
theorem dL_law_40 : decode cL_law 40 = .ok (.tableswitch 3507 0 43 #[192, 304, 362, 375, 431, 444, 499, 555, 611, 705, 787, 867, 961, 1055, 1161, 1241, 1309, 1384, 1478, 1565, 1676, 1787, 1867, 1935, 2015, 2111, 2203, 2270, 2325, 2380, 2435, 2491, 2593, 2648, 2787, 2931, 3000, 3124, 3180, 3243, 3338, 3394, 3450, 3494], 192) := by decide +kernel
theorem dL_law_232 : decode cL_law 232 = .ok (.aload_n 1, 1) := db_43 (bt_of (i := 40) lb_3 rfl rfl (by decide))
theorem dL_law_233 : decode cL_law 233 = .ok (.aload_n 0, 1) := db_42 (bt_of (i := 41) lb_3 rfl rfl (by decide))
theorem dL_law_234 : decode cL_law 234 = .ok (.iload 4, 2) := db_21 (bt_of (i := 42) lb_3 rfl rfl (by decide)) (bt_of (i := 43) lb_3 rfl rfl (by decide))
theorem dL_law_236 : decode cL_law 236 = .ok (.iconst 1, 1) := db_4 (bt_of (i := 44) lb_3 rfl rfl (by decide))
theorem dL_law_237 : decode cL_law 237 = .ok (.iadd, 1) := db_96 (bt_of (i := 45) lb_3 rfl rfl (by decide))
theorem dL_law_238 : decode cL_law 238 = .ok (.iaload, 1) := db_46 (bt_of (i := 46) lb_3 rfl rfl (by decide))
theorem dL_law_239 : decode cL_law 239 = .ok (.aload_n 0, 1) := db_42 (bt_of (i := 47) lb_3 rfl rfl (by decide))
theorem dL_law_240 : decode cL_law 240 = .ok (.iload 4, 2) := db_21 (bt_of (i := 48) lb_3 rfl rfl (by decide)) (bt_of (i := 49) lb_3 rfl rfl (by decide))
theorem dL_law_242 : decode cL_law 242 = .ok (.iconst 2, 1) := db_5 (bt_of (i := 50) lb_3 rfl rfl (by decide))
theorem dL_law_243 : decode cL_law 243 = .ok (.iadd, 1) := db_96 (bt_of (i := 51) lb_3 rfl rfl (by decide))
theorem dL_law_244 : decode cL_law 244 = .ok (.iaload, 1) := db_46 (bt_of (i := 52) lb_3 rfl rfl (by decide))
theorem dL_law_245 : decode cL_law 245 = .ok (.i2l, 1) := db_133 (bt_of (i := 53) lb_3 rfl rfl (by decide))
theorem dL_law_246 : decode cL_law 246 = .ok (.bipush 32, 2) := db_16 (bt_of (i := 54) lb_3 rfl rfl (by decide)) (bt_of (i := 55) lb_3 rfl rfl (by decide))
theorem dL_law_248 : decode cL_law 248 = .ok (.lshl, 1) := db_121 (bt_of (i := 56) lb_3 rfl rfl (by decide))
theorem dL_law_249 : decode cL_law 249 = .ok (.aload_n 0, 1) := db_42 (bt_of (i := 57) lb_3 rfl rfl (by decide))
theorem dL_law_250 : decode cL_law 250 = .ok (.iload 4, 2) := db_21 (bt_of (i := 58) lb_3 rfl rfl (by decide)) (bt_of (i := 59) lb_3 rfl rfl (by decide))
theorem dL_law_252 : decode cL_law 252 = .ok (.iconst 3, 1) := db_6 (bt_of (i := 60) lb_3 rfl rfl (by decide))
theorem dL_law_253 : decode cL_law 253 = .ok (.iadd, 1) := db_96 (bt_of (i := 61) lb_3 rfl rfl (by decide))
theorem dL_law_254 : decode cL_law 254 = .ok (.iaload, 1) := db_46 (bt_of (i := 62) lb_3 rfl rfl (by decide))
theorem dL_law_255 : decode cL_law 255 = .ok (.i2l, 1) := db_133 (bt_of (i := 63) lb_3 rfl rfl (by decide))
theorem dL_law_256 : decode cL_law 256 = .ok (.ldc2_w 171, 3) := db_20 (bt_of (i := 0) lb_4 rfl rfl (by decide)) (bt_of (i := 1) lb_4 rfl rfl (by decide)) (bt_of (i := 2) lb_4 rfl rfl (by decide))
theorem dL_law_259 : decode cL_law 259 = .ok (.land, 1) := db_127 (bt_of (i := 3) lb_4 rfl rfl (by decide))
theorem dL_law_260 : decode cL_law 260 = .ok (.lor, 1) := db_129 (bt_of (i := 4) lb_4 rfl rfl (by decide))
theorem dL_law_261 : decode cL_law 261 = .ok (.aload_n 0, 1) := db_42 (bt_of (i := 5) lb_4 rfl rfl (by decide))
theorem dL_law_262 : decode cL_law 262 = .ok (.iload 4, 2) := db_21 (bt_of (i := 6) lb_4 rfl rfl (by decide)) (bt_of (i := 7) lb_4 rfl rfl (by decide))
theorem dL_law_264 : decode cL_law 264 = .ok (.iconst 4, 1) := db_7 (bt_of (i := 8) lb_4 rfl rfl (by decide))
theorem dL_law_265 : decode cL_law 265 = .ok (.iadd, 1) := db_96 (bt_of (i := 9) lb_4 rfl rfl (by decide))
theorem dL_law_266 : decode cL_law 266 = .ok (.iaload, 1) := db_46 (bt_of (i := 10) lb_4 rfl rfl (by decide))
theorem dL_law_267 : decode cL_law 267 = .ok (.aload_n 3, 1) := db_45 (bt_of (i := 11) lb_4 rfl rfl (by decide))
theorem dL_law_268 : decode cL_law 268 = .ok (.invokestatic 173, 3) := db_184 (bt_of (i := 12) lb_4 rfl rfl (by decide)) (bt_of (i := 13) lb_4 rfl rfl (by decide)) (bt_of (i := 14) lb_4 rfl rfl (by decide))
theorem dL_law_271 : decode cL_law 271 = .ok (.istore 5, 2) := db_54 (bt_of (i := 15) lb_4 rfl rfl (by decide)) (bt_of (i := 16) lb_4 rfl rfl (by decide))
theorem dL_law_273 : decode cL_law 273 = .ok (.aload_n 2, 1) := db_44 (bt_of (i := 17) lb_4 rfl rfl (by decide))
theorem dL_law_274 : decode cL_law 274 = .ok (.aload_n 0, 1) := db_42 (bt_of (i := 18) lb_4 rfl rfl (by decide))
theorem dL_law_275 : decode cL_law 275 = .ok (.iload 4, 2) := db_21 (bt_of (i := 19) lb_4 rfl rfl (by decide)) (bt_of (i := 20) lb_4 rfl rfl (by decide))
theorem dL_law_277 : decode cL_law 277 = .ok (.iconst 1, 1) := db_4 (bt_of (i := 21) lb_4 rfl rfl (by decide))
theorem dL_law_278 : decode cL_law 278 = .ok (.iadd, 1) := db_96 (bt_of (i := 22) lb_4 rfl rfl (by decide))
theorem dL_law_279 : decode cL_law 279 = .ok (.iaload, 1) := db_46 (bt_of (i := 23) lb_4 rfl rfl (by decide))
theorem dL_law_280 : decode cL_law 280 = .ok (.aload_n 0, 1) := db_42 (bt_of (i := 24) lb_4 rfl rfl (by decide))
theorem dL_law_281 : decode cL_law 281 = .ok (.iload 4, 2) := db_21 (bt_of (i := 25) lb_4 rfl rfl (by decide)) (bt_of (i := 26) lb_4 rfl rfl (by decide))
theorem dL_law_283 : decode cL_law 283 = .ok (.iconst 2, 1) := db_5 (bt_of (i := 27) lb_4 rfl rfl (by decide))
theorem dL_law_284 : decode cL_law 284 = .ok (.iadd, 1) := db_96 (bt_of (i := 28) lb_4 rfl rfl (by decide))
theorem dL_law_285 : decode cL_law 285 = .ok (.iaload, 1) := db_46 (bt_of (i := 29) lb_4 rfl rfl (by decide))
theorem dL_law_286 : decode cL_law 286 = .ok (.i2l, 1) := db_133 (bt_of (i := 30) lb_4 rfl rfl (by decide))
theorem dL_law_287 : decode cL_law 287 = .ok (.bipush 32, 2) := db_16 (bt_of (i := 31) lb_4 rfl rfl (by decide)) (bt_of (i := 32) lb_4 rfl rfl (by decide))
theorem dL_law_289 : decode cL_law 289 = .ok (.lshl, 1) := db_121 (bt_of (i := 33) lb_4 rfl rfl (by decide))
theorem dL_law_290 : decode cL_law 290 = .ok (.aload_n 0, 1) := db_42 (bt_of (i := 34) lb_4 rfl rfl (by decide))
theorem dL_law_291 : decode cL_law 291 = .ok (.iload 4, 2) := db_21 (bt_of (i := 35) lb_4 rfl rfl (by decide)) (bt_of (i := 36) lb_4 rfl rfl (by decide))
theorem dL_law_293 : decode cL_law 293 = .ok (.iconst 3, 1) := db_6 (bt_of (i := 37) lb_4 rfl rfl (by decide))
theorem dL_law_294 : decode cL_law 294 = .ok (.iadd, 1) := db_96 (bt_of (i := 38) lb_4 rfl rfl (by decide))
theorem dL_law_295 : decode cL_law 295 = .ok (.iaload, 1) := db_46 (bt_of (i := 39) lb_4 rfl rfl (by decide))
theorem dL_law_296 : decode cL_law 296 = .ok (.i2l, 1) := db_133 (bt_of (i := 40) lb_4 rfl rfl (by decide))
theorem dL_law_297 : decode cL_law 297 = .ok (.ldc2_w 171, 3) := db_20 (bt_of (i := 41) lb_4 rfl rfl (by decide)) (bt_of (i := 42) lb_4 rfl rfl (by decide)) (bt_of (i := 43) lb_4 rfl rfl (by decide))
theorem dL_law_300 : decode cL_law 300 = .ok (.land, 1) := db_127 (bt_of (i := 44) lb_4 rfl rfl (by decide))
theorem dL_law_301 : decode cL_law 301 = .ok (.lor, 1) := db_129 (bt_of (i := 45) lb_4 rfl rfl (by decide))
theorem dL_law_302 : decode cL_law 302 = .ok (.aload_n 0, 1) := db_42 (bt_of (i := 46) lb_4 rfl rfl (by decide))
theorem dL_law_303 : decode cL_law 303 = .ok (.iload 4, 2) := db_21 (bt_of (i := 47) lb_4 rfl rfl (by decide)) (bt_of (i := 48) lb_4 rfl rfl (by decide))
theorem dL_law_305 : decode cL_law 305 = .ok (.iconst 4, 1) := db_7 (bt_of (i := 49) lb_4 rfl rfl (by decide))
theorem dL_law_306 : decode cL_law 306 = .ok (.iadd, 1) := db_96 (bt_of (i := 50) lb_4 rfl rfl (by decide))
theorem dL_law_307 : decode cL_law 307 = .ok (.iaload, 1) := db_46 (bt_of (i := 51) lb_4 rfl rfl (by decide))
theorem dL_law_308 : decode cL_law 308 = .ok (.invokevirtual 178, 3) := db_182 (bt_of (i := 52) lb_4 rfl rfl (by decide)) (bt_of (i := 53) lb_4 rfl rfl (by decide)) (bt_of (i := 54) lb_4 rfl rfl (by decide))
theorem dL_law_311 : decode cL_law 311 = .ok (.istore 6, 2) := db_54 (bt_of (i := 55) lb_4 rfl rfl (by decide)) (bt_of (i := 56) lb_4 rfl rfl (by decide))
theorem dL_law_313 : decode cL_law 313 = .ok (.aload_n 2, 1) := db_44 (bt_of (i := 57) lb_4 rfl rfl (by decide))
theorem dL_law_314 : decode cL_law 314 = .ok (.invokevirtual 179, 3) := db_182 (bt_of (i := 58) lb_4 rfl rfl (by decide)) (bt_of (i := 59) lb_4 rfl rfl (by decide)) (bt_of (i := 60) lb_4 rfl rfl (by decide))
theorem dL_law_317 : decode cL_law 317 = .ok (.iload 5, 2) := db_21 (bt_of (i := 61) lb_4 rfl rfl (by decide)) (bt_of (i := 62) lb_4 rfl rfl (by decide))
theorem dL_law_319 : decode cL_law 319 = .ok (.if_icmp .eq 5, 3) := db_159 (bt_of (i := 63) lb_4 rfl rfl (by decide)) (bt_of (i := 0) lb_5 rfl rfl (by decide)) (bt_of (i := 1) lb_5 rfl rfl (by decide)) (by decide +kernel)
theorem dL_law_322 : decode cL_law 322 = .ok (.iconst 0, 1) := db_3 (bt_of (i := 2) lb_5 rfl rfl (by decide))
theorem dL_law_323 : decode cL_law 323 = .ok (.ireturn, 1) := db_172 (bt_of (i := 3) lb_5 rfl rfl (by decide))
theorem dL_law_324 : decode cL_law 324 = .ok (.iload 5, 2) := db_21 (bt_of (i := 4) lb_5 rfl rfl (by decide)) (bt_of (i := 5) lb_5 rfl rfl (by decide))
theorem dL_law_326 : decode cL_law 326 = .ok (.ifCond .ne 15, 3) := db_154 (bt_of (i := 6) lb_5 rfl rfl (by decide)) (bt_of (i := 7) lb_5 rfl rfl (by decide)) (bt_of (i := 8) lb_5 rfl rfl (by decide)) (by decide +kernel)
theorem dL_law_329 : decode cL_law 329 = .ok (.aload_n 3, 1) := db_45 (bt_of (i := 9) lb_5 rfl rfl (by decide))
theorem dL_law_330 : decode cL_law 330 = .ok (.iconst 0, 1) := db_3 (bt_of (i := 10) lb_5 rfl rfl (by decide))
theorem dL_law_331 : decode cL_law 331 = .ok (.laload, 1) := db_47 (bt_of (i := 11) lb_5 rfl rfl (by decide))
theorem dL_law_332 : decode cL_law 332 = .ok (.iload 6, 2) := db_21 (bt_of (i := 12) lb_5 rfl rfl (by decide)) (bt_of (i := 13) lb_5 rfl rfl (by decide))
theorem dL_law_334 : decode cL_law 334 = .ok (.i2l, 1) := db_133 (bt_of (i := 14) lb_5 rfl rfl (by decide))
theorem dL_law_335 : decode cL_law 335 = .ok (.lcmp, 1) := db_148 (bt_of (i := 15) lb_5 rfl rfl (by decide))
theorem dL_law_336 : decode cL_law 336 = .ok (.ifCond .eq 5, 3) := db_153 (bt_of (i := 16) lb_5 rfl rfl (by decide)) (bt_of (i := 17) lb_5 rfl rfl (by decide)) (bt_of (i := 18) lb_5 rfl rfl (by decide)) (by decide +kernel)
theorem dL_law_339 : decode cL_law 339 = .ok (.iconst 0, 1) := db_3 (bt_of (i := 19) lb_5 rfl rfl (by decide))
theorem dL_law_340 : decode cL_law 340 = .ok (.ireturn, 1) := db_172 (bt_of (i := 20) lb_5 rfl rfl (by decide))
theorem dL_law_341 : decode cL_law 341 = .ok (.goto 3206, 3) := db_167 (bt_of (i := 21) lb_5 rfl rfl (by decide)) (bt_of (i := 22) lb_5 rfl rfl (by decide)) (bt_of (i := 23) lb_5 rfl rfl (by decide)) (by decide +kernel)
theorem dL_law_344 : decode cL_law 344 = .ok (.aload_n 1, 1) := db_43 (bt_of (i := 24) lb_5 rfl rfl (by decide))
theorem dL_law_345 : decode cL_law 345 = .ok (.aload_n 0, 1) := db_42 (bt_of (i := 25) lb_5 rfl rfl (by decide))
theorem dL_law_346 : decode cL_law 346 = .ok (.iload 4, 2) := db_21 (bt_of (i := 26) lb_5 rfl rfl (by decide)) (bt_of (i := 27) lb_5 rfl rfl (by decide))
theorem dL_law_348 : decode cL_law 348 = .ok (.iconst 1, 1) := db_4 (bt_of (i := 28) lb_5 rfl rfl (by decide))
theorem dL_law_349 : decode cL_law 349 = .ok (.iadd, 1) := db_96 (bt_of (i := 29) lb_5 rfl rfl (by decide))
theorem dL_law_350 : decode cL_law 350 = .ok (.iaload, 1) := db_46 (bt_of (i := 30) lb_5 rfl rfl (by decide))
theorem dL_law_351 : decode cL_law 351 = .ok (.i2c, 1) := db_146 (bt_of (i := 31) lb_5 rfl rfl (by decide))
theorem dL_law_352 : decode cL_law 352 = .ok (.aload_n 3, 1) := db_45 (bt_of (i := 32) lb_5 rfl rfl (by decide))
theorem dL_law_353 : decode cL_law 353 = .ok (.invokestatic 182, 3) := db_184 (bt_of (i := 33) lb_5 rfl rfl (by decide)) (bt_of (i := 34) lb_5 rfl rfl (by decide)) (bt_of (i := 35) lb_5 rfl rfl (by decide))
theorem dL_law_356 : decode cL_law 356 = .ok (.istore 5, 2) := db_54 (bt_of (i := 36) lb_5 rfl rfl (by decide)) (bt_of (i := 37) lb_5 rfl rfl (by decide))
theorem dL_law_358 : decode cL_law 358 = .ok (.aload_n 2, 1) := db_44 (bt_of (i := 38) lb_5 rfl rfl (by decide))
theorem dL_law_359 : decode cL_law 359 = .ok (.aload_n 0, 1) := db_42 (bt_of (i := 39) lb_5 rfl rfl (by decide))
theorem dL_law_360 : decode cL_law 360 = .ok (.iload 4, 2) := db_21 (bt_of (i := 40) lb_5 rfl rfl (by decide)) (bt_of (i := 41) lb_5 rfl rfl (by decide))
theorem dL_law_362 : decode cL_law 362 = .ok (.iconst 1, 1) := db_4 (bt_of (i := 42) lb_5 rfl rfl (by decide))
theorem dL_law_363 : decode cL_law 363 = .ok (.iadd, 1) := db_96 (bt_of (i := 43) lb_5 rfl rfl (by decide))
theorem dL_law_364 : decode cL_law 364 = .ok (.iaload, 1) := db_46 (bt_of (i := 44) lb_5 rfl rfl (by decide))
theorem dL_law_365 : decode cL_law 365 = .ok (.i2c, 1) := db_146 (bt_of (i := 45) lb_5 rfl rfl (by decide))
theorem dL_law_366 : decode cL_law 366 = .ok (.invokevirtual 185, 3) := db_182 (bt_of (i := 46) lb_5 rfl rfl (by decide)) (bt_of (i := 47) lb_5 rfl rfl (by decide)) (bt_of (i := 48) lb_5 rfl rfl (by decide))
theorem dL_law_369 : decode cL_law 369 = .ok (.istore 6, 2) := db_54 (bt_of (i := 49) lb_5 rfl rfl (by decide)) (bt_of (i := 50) lb_5 rfl rfl (by decide))
theorem dL_law_371 : decode cL_law 371 = .ok (.aload_n 2, 1) := db_44 (bt_of (i := 51) lb_5 rfl rfl (by decide))
theorem dL_law_372 : decode cL_law 372 = .ok (.invokevirtual 179, 3) := db_182 (bt_of (i := 52) lb_5 rfl rfl (by decide)) (bt_of (i := 53) lb_5 rfl rfl (by decide)) (bt_of (i := 54) lb_5 rfl rfl (by decide))
theorem dL_law_375 : decode cL_law 375 = .ok (.iload 5, 2) := db_21 (bt_of (i := 55) lb_5 rfl rfl (by decide)) (bt_of (i := 56) lb_5 rfl rfl (by decide))
theorem dL_law_377 : decode cL_law 377 = .ok (.if_icmp .eq 5, 3) := db_159 (bt_of (i := 57) lb_5 rfl rfl (by decide)) (bt_of (i := 58) lb_5 rfl rfl (by decide)) (bt_of (i := 59) lb_5 rfl rfl (by decide)) (by decide +kernel)
theorem dL_law_380 : decode cL_law 380 = .ok (.iconst 0, 1) := db_3 (bt_of (i := 60) lb_5 rfl rfl (by decide))
theorem dL_law_381 : decode cL_law 381 = .ok (.ireturn, 1) := db_172 (bt_of (i := 61) lb_5 rfl rfl (by decide))
theorem dL_law_382 : decode cL_law 382 = .ok (.iload 5, 2) := db_21 (bt_of (i := 62) lb_5 rfl rfl (by decide)) (bt_of (i := 63) lb_5 rfl rfl (by decide))
theorem dL_law_384 : decode cL_law 384 = .ok (.ifCond .ne 15, 3) := db_154 (bt_of (i := 0) lb_6 rfl rfl (by decide)) (bt_of (i := 1) lb_6 rfl rfl (by decide)) (bt_of (i := 2) lb_6 rfl rfl (by decide)) (by decide +kernel)
theorem dL_law_387 : decode cL_law 387 = .ok (.aload_n 3, 1) := db_45 (bt_of (i := 3) lb_6 rfl rfl (by decide))
theorem dL_law_388 : decode cL_law 388 = .ok (.iconst 0, 1) := db_3 (bt_of (i := 4) lb_6 rfl rfl (by decide))
theorem dL_law_389 : decode cL_law 389 = .ok (.laload, 1) := db_47 (bt_of (i := 5) lb_6 rfl rfl (by decide))
theorem dL_law_390 : decode cL_law 390 = .ok (.iload 6, 2) := db_21 (bt_of (i := 6) lb_6 rfl rfl (by decide)) (bt_of (i := 7) lb_6 rfl rfl (by decide))
theorem dL_law_392 : decode cL_law 392 = .ok (.i2l, 1) := db_133 (bt_of (i := 8) lb_6 rfl rfl (by decide))
theorem dL_law_393 : decode cL_law 393 = .ok (.lcmp, 1) := db_148 (bt_of (i := 9) lb_6 rfl rfl (by decide))
theorem dL_law_394 : decode cL_law 394 = .ok (.ifCond .eq 5, 3) := db_153 (bt_of (i := 10) lb_6 rfl rfl (by decide)) (bt_of (i := 11) lb_6 rfl rfl (by decide)) (bt_of (i := 12) lb_6 rfl rfl (by decide)) (by decide +kernel)
theorem dL_law_397 : decode cL_law 397 = .ok (.iconst 0, 1) := db_3 (bt_of (i := 13) lb_6 rfl rfl (by decide))
theorem dL_law_398 : decode cL_law 398 = .ok (.ireturn, 1) := db_172 (bt_of (i := 14) lb_6 rfl rfl (by decide))
theorem dL_law_399 : decode cL_law 399 = .ok (.goto 3148, 3) := db_167 (bt_of (i := 15) lb_6 rfl rfl (by decide)) (bt_of (i := 16) lb_6 rfl rfl (by decide)) (bt_of (i := 17) lb_6 rfl rfl (by decide)) (by decide +kernel)
theorem dL_law_402 : decode cL_law 402 = .ok (.aload_n 1, 1) := db_43 (bt_of (i := 18) lb_6 rfl rfl (by decide))
theorem dL_law_403 : decode cL_law 403 = .ok (.invokevirtual 186, 3) := db_182 (bt_of (i := 19) lb_6 rfl rfl (by decide)) (bt_of (i := 20) lb_6 rfl rfl (by decide)) (bt_of (i := 21) lb_6 rfl rfl (by decide))
theorem dL_law_406 : decode cL_law 406 = .ok (.aload_n 2, 1) := db_44 (bt_of (i := 22) lb_6 rfl rfl (by decide))
theorem dL_law_407 : decode cL_law 407 = .ok (.invokevirtual 189, 3) := db_182 (bt_of (i := 23) lb_6 rfl rfl (by decide)) (bt_of (i := 24) lb_6 rfl rfl (by decide)) (bt_of (i := 25) lb_6 rfl rfl (by decide))
theorem dL_law_410 : decode cL_law 410 = .ok (.if_icmp .eq 3137, 3) := db_159 (bt_of (i := 26) lb_6 rfl rfl (by decide)) (bt_of (i := 27) lb_6 rfl rfl (by decide)) (bt_of (i := 28) lb_6 rfl rfl (by decide)) (by decide +kernel)
theorem dL_law_413 : decode cL_law 413 = .ok (.iconst 0, 1) := db_3 (bt_of (i := 29) lb_6 rfl rfl (by decide))
theorem dL_law_414 : decode cL_law 414 = .ok (.ireturn, 1) := db_172 (bt_of (i := 30) lb_6 rfl rfl (by decide))
theorem dL_law_415 : decode cL_law 415 = .ok (.aload_n 1, 1) := db_43 (bt_of (i := 31) lb_6 rfl rfl (by decide))
theorem dL_law_416 : decode cL_law 416 = .ok (.aload_n 0, 1) := db_42 (bt_of (i := 32) lb_6 rfl rfl (by decide))
theorem dL_law_417 : decode cL_law 417 = .ok (.iload 4, 2) := db_21 (bt_of (i := 33) lb_6 rfl rfl (by decide)) (bt_of (i := 34) lb_6 rfl rfl (by decide))
theorem dL_law_419 : decode cL_law 419 = .ok (.iconst 1, 1) := db_4 (bt_of (i := 35) lb_6 rfl rfl (by decide))
theorem dL_law_420 : decode cL_law 420 = .ok (.iadd, 1) := db_96 (bt_of (i := 36) lb_6 rfl rfl (by decide))
theorem dL_law_421 : decode cL_law 421 = .ok (.iaload, 1) := db_46 (bt_of (i := 37) lb_6 rfl rfl (by decide))
theorem dL_law_422 : decode cL_law 422 = .ok (.aload_n 3, 1) := db_45 (bt_of (i := 38) lb_6 rfl rfl (by decide))
theorem dL_law_423 : decode cL_law 423 = .ok (.invokestatic 190, 3) := db_184 (bt_of (i := 39) lb_6 rfl rfl (by decide)) (bt_of (i := 40) lb_6 rfl rfl (by decide)) (bt_of (i := 41) lb_6 rfl rfl (by decide))
theorem dL_law_426 : decode cL_law 426 = .ok (.istore 5, 2) := db_54 (bt_of (i := 42) lb_6 rfl rfl (by decide)) (bt_of (i := 43) lb_6 rfl rfl (by decide))
theorem dL_law_428 : decode cL_law 428 = .ok (.aload_n 2, 1) := db_44 (bt_of (i := 44) lb_6 rfl rfl (by decide))
theorem dL_law_429 : decode cL_law 429 = .ok (.aload_n 0, 1) := db_42 (bt_of (i := 45) lb_6 rfl rfl (by decide))
theorem dL_law_430 : decode cL_law 430 = .ok (.iload 4, 2) := db_21 (bt_of (i := 46) lb_6 rfl rfl (by decide)) (bt_of (i := 47) lb_6 rfl rfl (by decide))
theorem dL_law_432 : decode cL_law 432 = .ok (.iconst 1, 1) := db_4 (bt_of (i := 48) lb_6 rfl rfl (by decide))
theorem dL_law_433 : decode cL_law 433 = .ok (.iadd, 1) := db_96 (bt_of (i := 49) lb_6 rfl rfl (by decide))
theorem dL_law_434 : decode cL_law 434 = .ok (.iaload, 1) := db_46 (bt_of (i := 50) lb_6 rfl rfl (by decide))
theorem dL_law_435 : decode cL_law 435 = .ok (.invokevirtual 193, 3) := db_182 (bt_of (i := 51) lb_6 rfl rfl (by decide)) (bt_of (i := 52) lb_6 rfl rfl (by decide)) (bt_of (i := 53) lb_6 rfl rfl (by decide))
theorem dL_law_438 : decode cL_law 438 = .ok (.istore 6, 2) := db_54 (bt_of (i := 54) lb_6 rfl rfl (by decide)) (bt_of (i := 55) lb_6 rfl rfl (by decide))
theorem dL_law_440 : decode cL_law 440 = .ok (.aload_n 2, 1) := db_44 (bt_of (i := 56) lb_6 rfl rfl (by decide))
theorem dL_law_441 : decode cL_law 441 = .ok (.invokevirtual 179, 3) := db_182 (bt_of (i := 57) lb_6 rfl rfl (by decide)) (bt_of (i := 58) lb_6 rfl rfl (by decide)) (bt_of (i := 59) lb_6 rfl rfl (by decide))
theorem dL_law_444 : decode cL_law 444 = .ok (.iload 5, 2) := db_21 (bt_of (i := 60) lb_6 rfl rfl (by decide)) (bt_of (i := 61) lb_6 rfl rfl (by decide))
theorem dL_law_446 : decode cL_law 446 = .ok (.if_icmp .eq 5, 3) := db_159 (bt_of (i := 62) lb_6 rfl rfl (by decide)) (bt_of (i := 63) lb_6 rfl rfl (by decide)) (bt_of (i := 0) lb_7 rfl rfl (by decide)) (by decide +kernel)
theorem dL_law_449 : decode cL_law 449 = .ok (.iconst 0, 1) := db_3 (bt_of (i := 1) lb_7 rfl rfl (by decide))
theorem dL_law_450 : decode cL_law 450 = .ok (.ireturn, 1) := db_172 (bt_of (i := 2) lb_7 rfl rfl (by decide))
theorem dL_law_451 : decode cL_law 451 = .ok (.iload 5, 2) := db_21 (bt_of (i := 3) lb_7 rfl rfl (by decide)) (bt_of (i := 4) lb_7 rfl rfl (by decide))
theorem dL_law_453 : decode cL_law 453 = .ok (.ifCond .ne 15, 3) := db_154 (bt_of (i := 5) lb_7 rfl rfl (by decide)) (bt_of (i := 6) lb_7 rfl rfl (by decide)) (bt_of (i := 7) lb_7 rfl rfl (by decide)) (by decide +kernel)
theorem dL_law_456 : decode cL_law 456 = .ok (.aload_n 3, 1) := db_45 (bt_of (i := 8) lb_7 rfl rfl (by decide))
theorem dL_law_457 : decode cL_law 457 = .ok (.iconst 0, 1) := db_3 (bt_of (i := 9) lb_7 rfl rfl (by decide))
theorem dL_law_458 : decode cL_law 458 = .ok (.laload, 1) := db_47 (bt_of (i := 10) lb_7 rfl rfl (by decide))
theorem dL_law_459 : decode cL_law 459 = .ok (.iload 6, 2) := db_21 (bt_of (i := 11) lb_7 rfl rfl (by decide)) (bt_of (i := 12) lb_7 rfl rfl (by decide))
theorem dL_law_461 : decode cL_law 461 = .ok (.i2l, 1) := db_133 (bt_of (i := 13) lb_7 rfl rfl (by decide))
theorem dL_law_462 : decode cL_law 462 = .ok (.lcmp, 1) := db_148 (bt_of (i := 14) lb_7 rfl rfl (by decide))
theorem dL_law_463 : decode cL_law 463 = .ok (.ifCond .eq 5, 3) := db_153 (bt_of (i := 15) lb_7 rfl rfl (by decide)) (bt_of (i := 16) lb_7 rfl rfl (by decide)) (bt_of (i := 17) lb_7 rfl rfl (by decide)) (by decide +kernel)
theorem dL_law_466 : decode cL_law 466 = .ok (.iconst 0, 1) := db_3 (bt_of (i := 18) lb_7 rfl rfl (by decide))
theorem dL_law_467 : decode cL_law 467 = .ok (.ireturn, 1) := db_172 (bt_of (i := 19) lb_7 rfl rfl (by decide))
theorem dL_law_468 : decode cL_law 468 = .ok (.goto 3079, 3) := db_167 (bt_of (i := 20) lb_7 rfl rfl (by decide)) (bt_of (i := 21) lb_7 rfl rfl (by decide)) (bt_of (i := 22) lb_7 rfl rfl (by decide)) (by decide +kernel)
theorem dL_law_471 : decode cL_law 471 = .ok (.aload_n 1, 1) := db_43 (bt_of (i := 23) lb_7 rfl rfl (by decide))
theorem dL_law_472 : decode cL_law 472 = .ok (.invokevirtual 194, 3) := db_182 (bt_of (i := 24) lb_7 rfl rfl (by decide)) (bt_of (i := 25) lb_7 rfl rfl (by decide)) (bt_of (i := 26) lb_7 rfl rfl (by decide))
theorem dL_law_475 : decode cL_law 475 = .ok (.aload_n 2, 1) := db_44 (bt_of (i := 27) lb_7 rfl rfl (by decide))
theorem dL_law_476 : decode cL_law 476 = .ok (.invokevirtual 197, 3) := db_182 (bt_of (i := 28) lb_7 rfl rfl (by decide)) (bt_of (i := 29) lb_7 rfl rfl (by decide)) (bt_of (i := 30) lb_7 rfl rfl (by decide))
theorem dL_law_479 : decode cL_law 479 = .ok (.if_icmp .eq 3068, 3) := db_159 (bt_of (i := 31) lb_7 rfl rfl (by decide)) (bt_of (i := 32) lb_7 rfl rfl (by decide)) (bt_of (i := 33) lb_7 rfl rfl (by decide)) (by decide +kernel)
theorem dL_law_482 : decode cL_law 482 = .ok (.iconst 0, 1) := db_3 (bt_of (i := 34) lb_7 rfl rfl (by decide))
theorem dL_law_483 : decode cL_law 483 = .ok (.ireturn, 1) := db_172 (bt_of (i := 35) lb_7 rfl rfl (by decide))
theorem dL_law_484 : decode cL_law 484 = .ok (.aload_n 1, 1) := db_43 (bt_of (i := 36) lb_7 rfl rfl (by decide))
theorem dL_law_485 : decode cL_law 485 = .ok (.aload_n 0, 1) := db_42 (bt_of (i := 37) lb_7 rfl rfl (by decide))
theorem dL_law_486 : decode cL_law 486 = .ok (.iload 4, 2) := db_21 (bt_of (i := 38) lb_7 rfl rfl (by decide)) (bt_of (i := 39) lb_7 rfl rfl (by decide))
theorem dL_law_488 : decode cL_law 488 = .ok (.iconst 1, 1) := db_4 (bt_of (i := 40) lb_7 rfl rfl (by decide))
theorem dL_law_489 : decode cL_law 489 = .ok (.iadd, 1) := db_96 (bt_of (i := 41) lb_7 rfl rfl (by decide))
theorem dL_law_490 : decode cL_law 490 = .ok (.iaload, 1) := db_46 (bt_of (i := 42) lb_7 rfl rfl (by decide))
theorem dL_law_491 : decode cL_law 491 = .ok (.aload_n 3, 1) := db_45 (bt_of (i := 43) lb_7 rfl rfl (by decide))
theorem dL_law_492 : decode cL_law 492 = .ok (.invokestatic 198, 3) := db_184 (bt_of (i := 44) lb_7 rfl rfl (by decide)) (bt_of (i := 45) lb_7 rfl rfl (by decide)) (bt_of (i := 46) lb_7 rfl rfl (by decide))
theorem dL_law_495 : decode cL_law 495 = .ok (.istore 5, 2) := db_54 (bt_of (i := 47) lb_7 rfl rfl (by decide)) (bt_of (i := 48) lb_7 rfl rfl (by decide))
theorem dL_law_497 : decode cL_law 497 = .ok (.aload_n 2, 1) := db_44 (bt_of (i := 49) lb_7 rfl rfl (by decide))
theorem dL_law_498 : decode cL_law 498 = .ok (.aload_n 0, 1) := db_42 (bt_of (i := 50) lb_7 rfl rfl (by decide))
theorem dL_law_499 : decode cL_law 499 = .ok (.iload 4, 2) := db_21 (bt_of (i := 51) lb_7 rfl rfl (by decide)) (bt_of (i := 52) lb_7 rfl rfl (by decide))
theorem dL_law_501 : decode cL_law 501 = .ok (.iconst 1, 1) := db_4 (bt_of (i := 53) lb_7 rfl rfl (by decide))
theorem dL_law_502 : decode cL_law 502 = .ok (.iadd, 1) := db_96 (bt_of (i := 54) lb_7 rfl rfl (by decide))
theorem dL_law_503 : decode cL_law 503 = .ok (.iaload, 1) := db_46 (bt_of (i := 55) lb_7 rfl rfl (by decide))
theorem dL_law_504 : decode cL_law 504 = .ok (.invokevirtual 200, 3) := db_182 (bt_of (i := 56) lb_7 rfl rfl (by decide)) (bt_of (i := 57) lb_7 rfl rfl (by decide)) (bt_of (i := 58) lb_7 rfl rfl (by decide))
theorem dL_law_507 : decode cL_law 507 = .ok (.lstore 6, 2) := db_55 (bt_of (i := 59) lb_7 rfl rfl (by decide)) (bt_of (i := 60) lb_7 rfl rfl (by decide))
theorem dL_law_509 : decode cL_law 509 = .ok (.aload_n 2, 1) := db_44 (bt_of (i := 61) lb_7 rfl rfl (by decide))
theorem dL_law_510 : decode cL_law 510 = .ok (.invokevirtual 179, 3) := db_182 (bt_of (i := 62) lb_7 rfl rfl (by decide)) (bt_of (i := 63) lb_7 rfl rfl (by decide)) (bt_of (i := 0) lb_8 rfl rfl (by decide))
theorem dL_law_513 : decode cL_law 513 = .ok (.iload 5, 2) := db_21 (bt_of (i := 1) lb_8 rfl rfl (by decide)) (bt_of (i := 2) lb_8 rfl rfl (by decide))
theorem dL_law_515 : decode cL_law 515 = .ok (.if_icmp .eq 5, 3) := db_159 (bt_of (i := 3) lb_8 rfl rfl (by decide)) (bt_of (i := 4) lb_8 rfl rfl (by decide)) (bt_of (i := 5) lb_8 rfl rfl (by decide)) (by decide +kernel)
theorem dL_law_518 : decode cL_law 518 = .ok (.iconst 0, 1) := db_3 (bt_of (i := 6) lb_8 rfl rfl (by decide))
theorem dL_law_519 : decode cL_law 519 = .ok (.ireturn, 1) := db_172 (bt_of (i := 7) lb_8 rfl rfl (by decide))
theorem dL_law_520 : decode cL_law 520 = .ok (.iload 5, 2) := db_21 (bt_of (i := 8) lb_8 rfl rfl (by decide)) (bt_of (i := 9) lb_8 rfl rfl (by decide))
theorem dL_law_522 : decode cL_law 522 = .ok (.ifCond .ne 14, 3) := db_154 (bt_of (i := 10) lb_8 rfl rfl (by decide)) (bt_of (i := 11) lb_8 rfl rfl (by decide)) (bt_of (i := 12) lb_8 rfl rfl (by decide)) (by decide +kernel)
theorem dL_law_525 : decode cL_law 525 = .ok (.aload_n 3, 1) := db_45 (bt_of (i := 13) lb_8 rfl rfl (by decide))
theorem dL_law_526 : decode cL_law 526 = .ok (.iconst 0, 1) := db_3 (bt_of (i := 14) lb_8 rfl rfl (by decide))
theorem dL_law_527 : decode cL_law 527 = .ok (.laload, 1) := db_47 (bt_of (i := 15) lb_8 rfl rfl (by decide))
theorem dL_law_528 : decode cL_law 528 = .ok (.lload 6, 2) := db_22 (bt_of (i := 16) lb_8 rfl rfl (by decide)) (bt_of (i := 17) lb_8 rfl rfl (by decide))
theorem dL_law_530 : decode cL_law 530 = .ok (.lcmp, 1) := db_148 (bt_of (i := 18) lb_8 rfl rfl (by decide))
theorem dL_law_531 : decode cL_law 531 = .ok (.ifCond .eq 5, 3) := db_153 (bt_of (i := 19) lb_8 rfl rfl (by decide)) (bt_of (i := 20) lb_8 rfl rfl (by decide)) (bt_of (i := 21) lb_8 rfl rfl (by decide)) (by decide +kernel)
theorem dL_law_534 : decode cL_law 534 = .ok (.iconst 0, 1) := db_3 (bt_of (i := 22) lb_8 rfl rfl (by decide))
theorem dL_law_535 : decode cL_law 535 = .ok (.ireturn, 1) := db_172 (bt_of (i := 23) lb_8 rfl rfl (by decide))
theorem dL_law_536 : decode cL_law 536 = .ok (.goto 3011, 3) := db_167 (bt_of (i := 24) lb_8 rfl rfl (by decide)) (bt_of (i := 25) lb_8 rfl rfl (by decide)) (bt_of (i := 26) lb_8 rfl rfl (by decide)) (by decide +kernel)
theorem dL_law_539 : decode cL_law 539 = .ok (.aload_n 1, 1) := db_43 (bt_of (i := 27) lb_8 rfl rfl (by decide))
theorem dL_law_540 : decode cL_law 540 = .ok (.aload_n 0, 1) := db_42 (bt_of (i := 28) lb_8 rfl rfl (by decide))
theorem dL_law_541 : decode cL_law 541 = .ok (.iload 4, 2) := db_21 (bt_of (i := 29) lb_8 rfl rfl (by decide)) (bt_of (i := 30) lb_8 rfl rfl (by decide))
theorem dL_law_543 : decode cL_law 543 = .ok (.iconst 1, 1) := db_4 (bt_of (i := 31) lb_8 rfl rfl (by decide))
theorem dL_law_544 : decode cL_law 544 = .ok (.iadd, 1) := db_96 (bt_of (i := 32) lb_8 rfl rfl (by decide))
theorem dL_law_545 : decode cL_law 545 = .ok (.iaload, 1) := db_46 (bt_of (i := 33) lb_8 rfl rfl (by decide))
theorem dL_law_546 : decode cL_law 546 = .ok (.aload_n 3, 1) := db_45 (bt_of (i := 34) lb_8 rfl rfl (by decide))
theorem dL_law_547 : decode cL_law 547 = .ok (.invokestatic 201, 3) := db_184 (bt_of (i := 35) lb_8 rfl rfl (by decide)) (bt_of (i := 36) lb_8 rfl rfl (by decide)) (bt_of (i := 37) lb_8 rfl rfl (by decide))
theorem dL_law_550 : decode cL_law 550 = .ok (.istore 5, 2) := db_54 (bt_of (i := 38) lb_8 rfl rfl (by decide)) (bt_of (i := 39) lb_8 rfl rfl (by decide))
theorem dL_law_552 : decode cL_law 552 = .ok (.aload_n 2, 1) := db_44 (bt_of (i := 40) lb_8 rfl rfl (by decide))
theorem dL_law_553 : decode cL_law 553 = .ok (.aload_n 0, 1) := db_42 (bt_of (i := 41) lb_8 rfl rfl (by decide))
theorem dL_law_554 : decode cL_law 554 = .ok (.iload 4, 2) := db_21 (bt_of (i := 42) lb_8 rfl rfl (by decide)) (bt_of (i := 43) lb_8 rfl rfl (by decide))
theorem dL_law_556 : decode cL_law 556 = .ok (.iconst 1, 1) := db_4 (bt_of (i := 44) lb_8 rfl rfl (by decide))
theorem dL_law_557 : decode cL_law 557 = .ok (.iadd, 1) := db_96 (bt_of (i := 45) lb_8 rfl rfl (by decide))
theorem dL_law_558 : decode cL_law 558 = .ok (.iaload, 1) := db_46 (bt_of (i := 46) lb_8 rfl rfl (by decide))
theorem dL_law_559 : decode cL_law 559 = .ok (.invokevirtual 203, 3) := db_182 (bt_of (i := 47) lb_8 rfl rfl (by decide)) (bt_of (i := 48) lb_8 rfl rfl (by decide)) (bt_of (i := 49) lb_8 rfl rfl (by decide))
theorem dL_law_562 : decode cL_law 562 = .ok (.istore 6, 2) := db_54 (bt_of (i := 50) lb_8 rfl rfl (by decide)) (bt_of (i := 51) lb_8 rfl rfl (by decide))
theorem dL_law_564 : decode cL_law 564 = .ok (.aload_n 2, 1) := db_44 (bt_of (i := 52) lb_8 rfl rfl (by decide))
theorem dL_law_565 : decode cL_law 565 = .ok (.invokevirtual 179, 3) := db_182 (bt_of (i := 53) lb_8 rfl rfl (by decide)) (bt_of (i := 54) lb_8 rfl rfl (by decide)) (bt_of (i := 55) lb_8 rfl rfl (by decide))
theorem dL_law_568 : decode cL_law 568 = .ok (.iload 5, 2) := db_21 (bt_of (i := 56) lb_8 rfl rfl (by decide)) (bt_of (i := 57) lb_8 rfl rfl (by decide))
theorem dL_law_570 : decode cL_law 570 = .ok (.if_icmp .eq 5, 3) := db_159 (bt_of (i := 58) lb_8 rfl rfl (by decide)) (bt_of (i := 59) lb_8 rfl rfl (by decide)) (bt_of (i := 60) lb_8 rfl rfl (by decide)) (by decide +kernel)
theorem dL_law_573 : decode cL_law 573 = .ok (.iconst 0, 1) := db_3 (bt_of (i := 61) lb_8 rfl rfl (by decide))
theorem dL_law_574 : decode cL_law 574 = .ok (.ireturn, 1) := db_172 (bt_of (i := 62) lb_8 rfl rfl (by decide))
theorem dL_law_575 : decode cL_law 575 = .ok (.iload 5, 2) := db_21 (bt_of (i := 63) lb_8 rfl rfl (by decide)) (bt_of (i := 0) lb_9 rfl rfl (by decide))
theorem dL_law_577 : decode cL_law 577 = .ok (.ifCond .ne 15, 3) := db_154 (bt_of (i := 1) lb_9 rfl rfl (by decide)) (bt_of (i := 2) lb_9 rfl rfl (by decide)) (bt_of (i := 3) lb_9 rfl rfl (by decide)) (by decide +kernel)
theorem dL_law_580 : decode cL_law 580 = .ok (.aload_n 3, 1) := db_45 (bt_of (i := 4) lb_9 rfl rfl (by decide))
theorem dL_law_581 : decode cL_law 581 = .ok (.iconst 0, 1) := db_3 (bt_of (i := 5) lb_9 rfl rfl (by decide))
theorem dL_law_582 : decode cL_law 582 = .ok (.laload, 1) := db_47 (bt_of (i := 6) lb_9 rfl rfl (by decide))
theorem dL_law_583 : decode cL_law 583 = .ok (.iload 6, 2) := db_21 (bt_of (i := 7) lb_9 rfl rfl (by decide)) (bt_of (i := 8) lb_9 rfl rfl (by decide))
theorem dL_law_585 : decode cL_law 585 = .ok (.i2l, 1) := db_133 (bt_of (i := 9) lb_9 rfl rfl (by decide))
theorem dL_law_586 : decode cL_law 586 = .ok (.lcmp, 1) := db_148 (bt_of (i := 10) lb_9 rfl rfl (by decide))
theorem dL_law_587 : decode cL_law 587 = .ok (.ifCond .eq 5, 3) := db_153 (bt_of (i := 11) lb_9 rfl rfl (by decide)) (bt_of (i := 12) lb_9 rfl rfl (by decide)) (bt_of (i := 13) lb_9 rfl rfl (by decide)) (by decide +kernel)
theorem dL_law_590 : decode cL_law 590 = .ok (.iconst 0, 1) := db_3 (bt_of (i := 14) lb_9 rfl rfl (by decide))
theorem dL_law_591 : decode cL_law 591 = .ok (.ireturn, 1) := db_172 (bt_of (i := 15) lb_9 rfl rfl (by decide))
theorem dL_law_592 : decode cL_law 592 = .ok (.goto 2955, 3) := db_167 (bt_of (i := 16) lb_9 rfl rfl (by decide)) (bt_of (i := 17) lb_9 rfl rfl (by decide)) (bt_of (i := 18) lb_9 rfl rfl (by decide)) (by decide +kernel)
theorem dL_law_595 : decode cL_law 595 = .ok (.aload_n 1, 1) := db_43 (bt_of (i := 19) lb_9 rfl rfl (by decide))
theorem dL_law_596 : decode cL_law 596 = .ok (.aload_n 0, 1) := db_42 (bt_of (i := 20) lb_9 rfl rfl (by decide))
theorem dL_law_597 : decode cL_law 597 = .ok (.iload 4, 2) := db_21 (bt_of (i := 21) lb_9 rfl rfl (by decide)) (bt_of (i := 22) lb_9 rfl rfl (by decide))
theorem dL_law_599 : decode cL_law 599 = .ok (.iconst 1, 1) := db_4 (bt_of (i := 23) lb_9 rfl rfl (by decide))
theorem dL_law_600 : decode cL_law 600 = .ok (.iadd, 1) := db_96 (bt_of (i := 24) lb_9 rfl rfl (by decide))
theorem dL_law_601 : decode cL_law 601 = .ok (.iaload, 1) := db_46 (bt_of (i := 25) lb_9 rfl rfl (by decide))
theorem dL_law_602 : decode cL_law 602 = .ok (.aload_n 3, 1) := db_45 (bt_of (i := 26) lb_9 rfl rfl (by decide))
theorem dL_law_603 : decode cL_law 603 = .ok (.invokestatic 204, 3) := db_184 (bt_of (i := 27) lb_9 rfl rfl (by decide)) (bt_of (i := 28) lb_9 rfl rfl (by decide)) (bt_of (i := 29) lb_9 rfl rfl (by decide))
theorem dL_law_606 : decode cL_law 606 = .ok (.istore 5, 2) := db_54 (bt_of (i := 30) lb_9 rfl rfl (by decide)) (bt_of (i := 31) lb_9 rfl rfl (by decide))
theorem dL_law_608 : decode cL_law 608 = .ok (.aload_n 2, 1) := db_44 (bt_of (i := 32) lb_9 rfl rfl (by decide))
theorem dL_law_609 : decode cL_law 609 = .ok (.aload_n 0, 1) := db_42 (bt_of (i := 33) lb_9 rfl rfl (by decide))
theorem dL_law_610 : decode cL_law 610 = .ok (.iload 4, 2) := db_21 (bt_of (i := 34) lb_9 rfl rfl (by decide)) (bt_of (i := 35) lb_9 rfl rfl (by decide))
theorem dL_law_612 : decode cL_law 612 = .ok (.iconst 1, 1) := db_4 (bt_of (i := 36) lb_9 rfl rfl (by decide))
theorem dL_law_613 : decode cL_law 613 = .ok (.iadd, 1) := db_96 (bt_of (i := 37) lb_9 rfl rfl (by decide))
theorem dL_law_614 : decode cL_law 614 = .ok (.iaload, 1) := db_46 (bt_of (i := 38) lb_9 rfl rfl (by decide))
theorem dL_law_615 : decode cL_law 615 = .ok (.invokevirtual 206, 3) := db_182 (bt_of (i := 39) lb_9 rfl rfl (by decide)) (bt_of (i := 40) lb_9 rfl rfl (by decide)) (bt_of (i := 41) lb_9 rfl rfl (by decide))
theorem dL_law_618 : decode cL_law 618 = .ok (.istore 6, 2) := db_54 (bt_of (i := 42) lb_9 rfl rfl (by decide)) (bt_of (i := 43) lb_9 rfl rfl (by decide))
theorem dL_law_620 : decode cL_law 620 = .ok (.aload_n 2, 1) := db_44 (bt_of (i := 44) lb_9 rfl rfl (by decide))
theorem dL_law_621 : decode cL_law 621 = .ok (.invokevirtual 179, 3) := db_182 (bt_of (i := 45) lb_9 rfl rfl (by decide)) (bt_of (i := 46) lb_9 rfl rfl (by decide)) (bt_of (i := 47) lb_9 rfl rfl (by decide))
theorem dL_law_624 : decode cL_law 624 = .ok (.iload 5, 2) := db_21 (bt_of (i := 48) lb_9 rfl rfl (by decide)) (bt_of (i := 49) lb_9 rfl rfl (by decide))
theorem dL_law_626 : decode cL_law 626 = .ok (.if_icmp .eq 5, 3) := db_159 (bt_of (i := 50) lb_9 rfl rfl (by decide)) (bt_of (i := 51) lb_9 rfl rfl (by decide)) (bt_of (i := 52) lb_9 rfl rfl (by decide)) (by decide +kernel)
theorem dL_law_629 : decode cL_law 629 = .ok (.iconst 0, 1) := db_3 (bt_of (i := 53) lb_9 rfl rfl (by decide))
theorem dL_law_630 : decode cL_law 630 = .ok (.ireturn, 1) := db_172 (bt_of (i := 54) lb_9 rfl rfl (by decide))
theorem dL_law_631 : decode cL_law 631 = .ok (.iload 5, 2) := db_21 (bt_of (i := 55) lb_9 rfl rfl (by decide)) (bt_of (i := 56) lb_9 rfl rfl (by decide))
theorem dL_law_633 : decode cL_law 633 = .ok (.ifCond .ne 15, 3) := db_154 (bt_of (i := 57) lb_9 rfl rfl (by decide)) (bt_of (i := 58) lb_9 rfl rfl (by decide)) (bt_of (i := 59) lb_9 rfl rfl (by decide)) (by decide +kernel)
theorem dL_law_636 : decode cL_law 636 = .ok (.aload_n 3, 1) := db_45 (bt_of (i := 60) lb_9 rfl rfl (by decide))
theorem dL_law_637 : decode cL_law 637 = .ok (.iconst 0, 1) := db_3 (bt_of (i := 61) lb_9 rfl rfl (by decide))
theorem dL_law_638 : decode cL_law 638 = .ok (.laload, 1) := db_47 (bt_of (i := 62) lb_9 rfl rfl (by decide))
theorem dL_law_639 : decode cL_law 639 = .ok (.iload 6, 2) := db_21 (bt_of (i := 63) lb_9 rfl rfl (by decide)) (bt_of (i := 0) lb_10 rfl rfl (by decide))
theorem dL_law_641 : decode cL_law 641 = .ok (.i2l, 1) := db_133 (bt_of (i := 1) lb_10 rfl rfl (by decide))
theorem dL_law_642 : decode cL_law 642 = .ok (.lcmp, 1) := db_148 (bt_of (i := 2) lb_10 rfl rfl (by decide))
theorem dL_law_643 : decode cL_law 643 = .ok (.ifCond .eq 5, 3) := db_153 (bt_of (i := 3) lb_10 rfl rfl (by decide)) (bt_of (i := 4) lb_10 rfl rfl (by decide)) (bt_of (i := 5) lb_10 rfl rfl (by decide)) (by decide +kernel)
theorem dL_law_646 : decode cL_law 646 = .ok (.iconst 0, 1) := db_3 (bt_of (i := 6) lb_10 rfl rfl (by decide))
theorem dL_law_647 : decode cL_law 647 = .ok (.ireturn, 1) := db_172 (bt_of (i := 7) lb_10 rfl rfl (by decide))
theorem dL_law_648 : decode cL_law 648 = .ok (.goto 2899, 3) := db_167 (bt_of (i := 8) lb_10 rfl rfl (by decide)) (bt_of (i := 9) lb_10 rfl rfl (by decide)) (bt_of (i := 10) lb_10 rfl rfl (by decide)) (by decide +kernel)
theorem dL_law_651 : decode cL_law 651 = .ok (.aload_n 1, 1) := db_43 (bt_of (i := 11) lb_10 rfl rfl (by decide))
theorem dL_law_652 : decode cL_law 652 = .ok (.aload_n 0, 1) := db_42 (bt_of (i := 12) lb_10 rfl rfl (by decide))
theorem dL_law_653 : decode cL_law 653 = .ok (.iload 4, 2) := db_21 (bt_of (i := 13) lb_10 rfl rfl (by decide)) (bt_of (i := 14) lb_10 rfl rfl (by decide))
theorem dL_law_655 : decode cL_law 655 = .ok (.iconst 1, 1) := db_4 (bt_of (i := 15) lb_10 rfl rfl (by decide))
theorem dL_law_656 : decode cL_law 656 = .ok (.iadd, 1) := db_96 (bt_of (i := 16) lb_10 rfl rfl (by decide))
theorem dL_law_657 : decode cL_law 657 = .ok (.iaload, 1) := db_46 (bt_of (i := 17) lb_10 rfl rfl (by decide))
theorem dL_law_658 : decode cL_law 658 = .ok (.aload_n 0, 1) := db_42 (bt_of (i := 18) lb_10 rfl rfl (by decide))
theorem dL_law_659 : decode cL_law 659 = .ok (.iload 4, 2) := db_21 (bt_of (i := 19) lb_10 rfl rfl (by decide)) (bt_of (i := 20) lb_10 rfl rfl (by decide))
theorem dL_law_661 : decode cL_law 661 = .ok (.iconst 2, 1) := db_5 (bt_of (i := 21) lb_10 rfl rfl (by decide))
theorem dL_law_662 : decode cL_law 662 = .ok (.iadd, 1) := db_96 (bt_of (i := 22) lb_10 rfl rfl (by decide))
theorem dL_law_663 : decode cL_law 663 = .ok (.iaload, 1) := db_46 (bt_of (i := 23) lb_10 rfl rfl (by decide))
theorem dL_law_664 : decode cL_law 664 = .ok (.aload_n 0, 1) := db_42 (bt_of (i := 24) lb_10 rfl rfl (by decide))
theorem dL_law_665 : decode cL_law 665 = .ok (.iload 4, 2) := db_21 (bt_of (i := 25) lb_10 rfl rfl (by decide)) (bt_of (i := 26) lb_10 rfl rfl (by decide))
theorem dL_law_667 : decode cL_law 667 = .ok (.iconst 3, 1) := db_6 (bt_of (i := 27) lb_10 rfl rfl (by decide))
theorem dL_law_668 : decode cL_law 668 = .ok (.iadd, 1) := db_96 (bt_of (i := 28) lb_10 rfl rfl (by decide))
theorem dL_law_669 : decode cL_law 669 = .ok (.iaload, 1) := db_46 (bt_of (i := 29) lb_10 rfl rfl (by decide))
theorem dL_law_670 : decode cL_law 670 = .ok (.i2c, 1) := db_146 (bt_of (i := 30) lb_10 rfl rfl (by decide))
theorem dL_law_671 : decode cL_law 671 = .ok (.aload_n 0, 1) := db_42 (bt_of (i := 31) lb_10 rfl rfl (by decide))
theorem dL_law_672 : decode cL_law 672 = .ok (.iload 4, 2) := db_21 (bt_of (i := 32) lb_10 rfl rfl (by decide)) (bt_of (i := 33) lb_10 rfl rfl (by decide))
theorem dL_law_674 : decode cL_law 674 = .ok (.iconst 4, 1) := db_7 (bt_of (i := 34) lb_10 rfl rfl (by decide))
theorem dL_law_675 : decode cL_law 675 = .ok (.iadd, 1) := db_96 (bt_of (i := 35) lb_10 rfl rfl (by decide))
theorem dL_law_676 : decode cL_law 676 = .ok (.iaload, 1) := db_46 (bt_of (i := 36) lb_10 rfl rfl (by decide))
theorem dL_law_677 : decode cL_law 677 = .ok (.aload_n 3, 1) := db_45 (bt_of (i := 37) lb_10 rfl rfl (by decide))
theorem dL_law_678 : decode cL_law 678 = .ok (.invokestatic 207, 3) := db_184 (bt_of (i := 38) lb_10 rfl rfl (by decide)) (bt_of (i := 39) lb_10 rfl rfl (by decide)) (bt_of (i := 40) lb_10 rfl rfl (by decide))
theorem dL_law_681 : decode cL_law 681 = .ok (.istore 5, 2) := db_54 (bt_of (i := 41) lb_10 rfl rfl (by decide)) (bt_of (i := 42) lb_10 rfl rfl (by decide))
theorem dL_law_683 : decode cL_law 683 = .ok (.aload_n 2, 1) := db_44 (bt_of (i := 43) lb_10 rfl rfl (by decide))
theorem dL_law_684 : decode cL_law 684 = .ok (.aload_n 0, 1) := db_42 (bt_of (i := 44) lb_10 rfl rfl (by decide))
theorem dL_law_685 : decode cL_law 685 = .ok (.iload 4, 2) := db_21 (bt_of (i := 45) lb_10 rfl rfl (by decide)) (bt_of (i := 46) lb_10 rfl rfl (by decide))
theorem dL_law_687 : decode cL_law 687 = .ok (.iconst 1, 1) := db_4 (bt_of (i := 47) lb_10 rfl rfl (by decide))
theorem dL_law_688 : decode cL_law 688 = .ok (.iadd, 1) := db_96 (bt_of (i := 48) lb_10 rfl rfl (by decide))
theorem dL_law_689 : decode cL_law 689 = .ok (.iaload, 1) := db_46 (bt_of (i := 49) lb_10 rfl rfl (by decide))
theorem dL_law_690 : decode cL_law 690 = .ok (.aload_n 0, 1) := db_42 (bt_of (i := 50) lb_10 rfl rfl (by decide))
theorem dL_law_691 : decode cL_law 691 = .ok (.iload 4, 2) := db_21 (bt_of (i := 51) lb_10 rfl rfl (by decide)) (bt_of (i := 52) lb_10 rfl rfl (by decide))
theorem dL_law_693 : decode cL_law 693 = .ok (.iconst 2, 1) := db_5 (bt_of (i := 53) lb_10 rfl rfl (by decide))
theorem dL_law_694 : decode cL_law 694 = .ok (.iadd, 1) := db_96 (bt_of (i := 54) lb_10 rfl rfl (by decide))
theorem dL_law_695 : decode cL_law 695 = .ok (.iaload, 1) := db_46 (bt_of (i := 55) lb_10 rfl rfl (by decide))
theorem dL_law_696 : decode cL_law 696 = .ok (.aload_n 0, 1) := db_42 (bt_of (i := 56) lb_10 rfl rfl (by decide))
theorem dL_law_697 : decode cL_law 697 = .ok (.iload 4, 2) := db_21 (bt_of (i := 57) lb_10 rfl rfl (by decide)) (bt_of (i := 58) lb_10 rfl rfl (by decide))
theorem dL_law_699 : decode cL_law 699 = .ok (.iconst 3, 1) := db_6 (bt_of (i := 59) lb_10 rfl rfl (by decide))
theorem dL_law_700 : decode cL_law 700 = .ok (.iadd, 1) := db_96 (bt_of (i := 60) lb_10 rfl rfl (by decide))
theorem dL_law_701 : decode cL_law 701 = .ok (.iaload, 1) := db_46 (bt_of (i := 61) lb_10 rfl rfl (by decide))
theorem dL_law_702 : decode cL_law 702 = .ok (.i2c, 1) := db_146 (bt_of (i := 62) lb_10 rfl rfl (by decide))
theorem dL_law_703 : decode cL_law 703 = .ok (.aload_n 0, 1) := db_42 (bt_of (i := 63) lb_10 rfl rfl (by decide))
theorem dL_law_704 : decode cL_law 704 = .ok (.iload 4, 2) := db_21 (bt_of (i := 0) lb_11 rfl rfl (by decide)) (bt_of (i := 1) lb_11 rfl rfl (by decide))
theorem dL_law_706 : decode cL_law 706 = .ok (.iconst 4, 1) := db_7 (bt_of (i := 2) lb_11 rfl rfl (by decide))
theorem dL_law_707 : decode cL_law 707 = .ok (.iadd, 1) := db_96 (bt_of (i := 3) lb_11 rfl rfl (by decide))
theorem dL_law_708 : decode cL_law 708 = .ok (.iaload, 1) := db_46 (bt_of (i := 4) lb_11 rfl rfl (by decide))
theorem dL_law_709 : decode cL_law 709 = .ok (.invokevirtual 210, 3) := db_182 (bt_of (i := 5) lb_11 rfl rfl (by decide)) (bt_of (i := 6) lb_11 rfl rfl (by decide)) (bt_of (i := 7) lb_11 rfl rfl (by decide))
theorem dL_law_712 : decode cL_law 712 = .ok (.istore 6, 2) := db_54 (bt_of (i := 8) lb_11 rfl rfl (by decide)) (bt_of (i := 9) lb_11 rfl rfl (by decide))
theorem dL_law_714 : decode cL_law 714 = .ok (.aload_n 2, 1) := db_44 (bt_of (i := 10) lb_11 rfl rfl (by decide))
theorem dL_law_715 : decode cL_law 715 = .ok (.invokevirtual 179, 3) := db_182 (bt_of (i := 11) lb_11 rfl rfl (by decide)) (bt_of (i := 12) lb_11 rfl rfl (by decide)) (bt_of (i := 13) lb_11 rfl rfl (by decide))
theorem dL_law_718 : decode cL_law 718 = .ok (.iload 5, 2) := db_21 (bt_of (i := 14) lb_11 rfl rfl (by decide)) (bt_of (i := 15) lb_11 rfl rfl (by decide))
theorem dL_law_720 : decode cL_law 720 = .ok (.if_icmp .eq 5, 3) := db_159 (bt_of (i := 16) lb_11 rfl rfl (by decide)) (bt_of (i := 17) lb_11 rfl rfl (by decide)) (bt_of (i := 18) lb_11 rfl rfl (by decide)) (by decide +kernel)
theorem dL_law_723 : decode cL_law 723 = .ok (.iconst 0, 1) := db_3 (bt_of (i := 19) lb_11 rfl rfl (by decide))
theorem dL_law_724 : decode cL_law 724 = .ok (.ireturn, 1) := db_172 (bt_of (i := 20) lb_11 rfl rfl (by decide))
theorem dL_law_725 : decode cL_law 725 = .ok (.iload 5, 2) := db_21 (bt_of (i := 21) lb_11 rfl rfl (by decide)) (bt_of (i := 22) lb_11 rfl rfl (by decide))
theorem dL_law_727 : decode cL_law 727 = .ok (.ifCond .ne 15, 3) := db_154 (bt_of (i := 23) lb_11 rfl rfl (by decide)) (bt_of (i := 24) lb_11 rfl rfl (by decide)) (bt_of (i := 25) lb_11 rfl rfl (by decide)) (by decide +kernel)
theorem dL_law_730 : decode cL_law 730 = .ok (.aload_n 3, 1) := db_45 (bt_of (i := 26) lb_11 rfl rfl (by decide))
theorem dL_law_731 : decode cL_law 731 = .ok (.iconst 0, 1) := db_3 (bt_of (i := 27) lb_11 rfl rfl (by decide))
theorem dL_law_732 : decode cL_law 732 = .ok (.laload, 1) := db_47 (bt_of (i := 28) lb_11 rfl rfl (by decide))
theorem dL_law_733 : decode cL_law 733 = .ok (.iload 6, 2) := db_21 (bt_of (i := 29) lb_11 rfl rfl (by decide)) (bt_of (i := 30) lb_11 rfl rfl (by decide))
theorem dL_law_735 : decode cL_law 735 = .ok (.i2l, 1) := db_133 (bt_of (i := 31) lb_11 rfl rfl (by decide))
theorem dL_law_736 : decode cL_law 736 = .ok (.lcmp, 1) := db_148 (bt_of (i := 32) lb_11 rfl rfl (by decide))
theorem dL_law_737 : decode cL_law 737 = .ok (.ifCond .eq 5, 3) := db_153 (bt_of (i := 33) lb_11 rfl rfl (by decide)) (bt_of (i := 34) lb_11 rfl rfl (by decide)) (bt_of (i := 35) lb_11 rfl rfl (by decide)) (by decide +kernel)
theorem dL_law_740 : decode cL_law 740 = .ok (.iconst 0, 1) := db_3 (bt_of (i := 36) lb_11 rfl rfl (by decide))
theorem dL_law_741 : decode cL_law 741 = .ok (.ireturn, 1) := db_172 (bt_of (i := 37) lb_11 rfl rfl (by decide))
theorem dL_law_742 : decode cL_law 742 = .ok (.goto 2805, 3) := db_167 (bt_of (i := 38) lb_11 rfl rfl (by decide)) (bt_of (i := 39) lb_11 rfl rfl (by decide)) (bt_of (i := 40) lb_11 rfl rfl (by decide)) (by decide +kernel)
theorem dL_law_745 : decode cL_law 745 = .ok (.aload_n 1, 1) := db_43 (bt_of (i := 41) lb_11 rfl rfl (by decide))
theorem dL_law_746 : decode cL_law 746 = .ok (.aload_n 0, 1) := db_42 (bt_of (i := 42) lb_11 rfl rfl (by decide))
theorem dL_law_747 : decode cL_law 747 = .ok (.iload 4, 2) := db_21 (bt_of (i := 43) lb_11 rfl rfl (by decide)) (bt_of (i := 44) lb_11 rfl rfl (by decide))
theorem dL_law_749 : decode cL_law 749 = .ok (.iconst 1, 1) := db_4 (bt_of (i := 45) lb_11 rfl rfl (by decide))
theorem dL_law_750 : decode cL_law 750 = .ok (.iadd, 1) := db_96 (bt_of (i := 46) lb_11 rfl rfl (by decide))
theorem dL_law_751 : decode cL_law 751 = .ok (.iaload, 1) := db_46 (bt_of (i := 47) lb_11 rfl rfl (by decide))
theorem dL_law_752 : decode cL_law 752 = .ok (.aload_n 0, 1) := db_42 (bt_of (i := 48) lb_11 rfl rfl (by decide))
theorem dL_law_753 : decode cL_law 753 = .ok (.iload 4, 2) := db_21 (bt_of (i := 49) lb_11 rfl rfl (by decide)) (bt_of (i := 50) lb_11 rfl rfl (by decide))
theorem dL_law_755 : decode cL_law 755 = .ok (.iconst 2, 1) := db_5 (bt_of (i := 51) lb_11 rfl rfl (by decide))
theorem dL_law_756 : decode cL_law 756 = .ok (.iadd, 1) := db_96 (bt_of (i := 52) lb_11 rfl rfl (by decide))
theorem dL_law_757 : decode cL_law 757 = .ok (.iaload, 1) := db_46 (bt_of (i := 53) lb_11 rfl rfl (by decide))
theorem dL_law_758 : decode cL_law 758 = .ok (.i2c, 1) := db_146 (bt_of (i := 54) lb_11 rfl rfl (by decide))
theorem dL_law_759 : decode cL_law 759 = .ok (.aload_n 0, 1) := db_42 (bt_of (i := 55) lb_11 rfl rfl (by decide))
theorem dL_law_760 : decode cL_law 760 = .ok (.iload 4, 2) := db_21 (bt_of (i := 56) lb_11 rfl rfl (by decide)) (bt_of (i := 57) lb_11 rfl rfl (by decide))
theorem dL_law_762 : decode cL_law 762 = .ok (.iconst 3, 1) := db_6 (bt_of (i := 58) lb_11 rfl rfl (by decide))
theorem dL_law_763 : decode cL_law 763 = .ok (.iadd, 1) := db_96 (bt_of (i := 59) lb_11 rfl rfl (by decide))
theorem dL_law_764 : decode cL_law 764 = .ok (.iaload, 1) := db_46 (bt_of (i := 60) lb_11 rfl rfl (by decide))
theorem dL_law_765 : decode cL_law 765 = .ok (.aload_n 3, 1) := db_45 (bt_of (i := 61) lb_11 rfl rfl (by decide))
theorem dL_law_766 : decode cL_law 766 = .ok (.invokestatic 211, 3) := db_184 (bt_of (i := 62) lb_11 rfl rfl (by decide)) (bt_of (i := 63) lb_11 rfl rfl (by decide)) (bt_of (i := 0) lb_12 rfl rfl (by decide))
theorem dL_law_769 : decode cL_law 769 = .ok (.istore 5, 2) := db_54 (bt_of (i := 1) lb_12 rfl rfl (by decide)) (bt_of (i := 2) lb_12 rfl rfl (by decide))
theorem dL_law_771 : decode cL_law 771 = .ok (.aload_n 2, 1) := db_44 (bt_of (i := 3) lb_12 rfl rfl (by decide))
theorem dL_law_772 : decode cL_law 772 = .ok (.aload_n 0, 1) := db_42 (bt_of (i := 4) lb_12 rfl rfl (by decide))
theorem dL_law_773 : decode cL_law 773 = .ok (.iload 4, 2) := db_21 (bt_of (i := 5) lb_12 rfl rfl (by decide)) (bt_of (i := 6) lb_12 rfl rfl (by decide))
theorem dL_law_775 : decode cL_law 775 = .ok (.iconst 1, 1) := db_4 (bt_of (i := 7) lb_12 rfl rfl (by decide))
theorem dL_law_776 : decode cL_law 776 = .ok (.iadd, 1) := db_96 (bt_of (i := 8) lb_12 rfl rfl (by decide))
theorem dL_law_777 : decode cL_law 777 = .ok (.iaload, 1) := db_46 (bt_of (i := 9) lb_12 rfl rfl (by decide))
theorem dL_law_778 : decode cL_law 778 = .ok (.aload_n 0, 1) := db_42 (bt_of (i := 10) lb_12 rfl rfl (by decide))
theorem dL_law_779 : decode cL_law 779 = .ok (.iload 4, 2) := db_21 (bt_of (i := 11) lb_12 rfl rfl (by decide)) (bt_of (i := 12) lb_12 rfl rfl (by decide))
theorem dL_law_781 : decode cL_law 781 = .ok (.iconst 2, 1) := db_5 (bt_of (i := 13) lb_12 rfl rfl (by decide))
theorem dL_law_782 : decode cL_law 782 = .ok (.iadd, 1) := db_96 (bt_of (i := 14) lb_12 rfl rfl (by decide))
theorem dL_law_783 : decode cL_law 783 = .ok (.iaload, 1) := db_46 (bt_of (i := 15) lb_12 rfl rfl (by decide))
theorem dL_law_784 : decode cL_law 784 = .ok (.i2c, 1) := db_146 (bt_of (i := 16) lb_12 rfl rfl (by decide))
theorem dL_law_785 : decode cL_law 785 = .ok (.aload_n 0, 1) := db_42 (bt_of (i := 17) lb_12 rfl rfl (by decide))
theorem dL_law_786 : decode cL_law 786 = .ok (.iload 4, 2) := db_21 (bt_of (i := 18) lb_12 rfl rfl (by decide)) (bt_of (i := 19) lb_12 rfl rfl (by decide))
theorem dL_law_788 : decode cL_law 788 = .ok (.iconst 3, 1) := db_6 (bt_of (i := 20) lb_12 rfl rfl (by decide))
theorem dL_law_789 : decode cL_law 789 = .ok (.iadd, 1) := db_96 (bt_of (i := 21) lb_12 rfl rfl (by decide))
theorem dL_law_790 : decode cL_law 790 = .ok (.iaload, 1) := db_46 (bt_of (i := 22) lb_12 rfl rfl (by decide))
theorem dL_law_791 : decode cL_law 791 = .ok (.invokevirtual 214, 3) := db_182 (bt_of (i := 23) lb_12 rfl rfl (by decide)) (bt_of (i := 24) lb_12 rfl rfl (by decide)) (bt_of (i := 25) lb_12 rfl rfl (by decide))
theorem dL_law_794 : decode cL_law 794 = .ok (.istore 6, 2) := db_54 (bt_of (i := 26) lb_12 rfl rfl (by decide)) (bt_of (i := 27) lb_12 rfl rfl (by decide))
theorem dL_law_796 : decode cL_law 796 = .ok (.aload_n 2, 1) := db_44 (bt_of (i := 28) lb_12 rfl rfl (by decide))
theorem dL_law_797 : decode cL_law 797 = .ok (.invokevirtual 179, 3) := db_182 (bt_of (i := 29) lb_12 rfl rfl (by decide)) (bt_of (i := 30) lb_12 rfl rfl (by decide)) (bt_of (i := 31) lb_12 rfl rfl (by decide))
theorem dL_law_800 : decode cL_law 800 = .ok (.iload 5, 2) := db_21 (bt_of (i := 32) lb_12 rfl rfl (by decide)) (bt_of (i := 33) lb_12 rfl rfl (by decide))
theorem dL_law_802 : decode cL_law 802 = .ok (.if_icmp .eq 5, 3) := db_159 (bt_of (i := 34) lb_12 rfl rfl (by decide)) (bt_of (i := 35) lb_12 rfl rfl (by decide)) (bt_of (i := 36) lb_12 rfl rfl (by decide)) (by decide +kernel)
theorem dL_law_805 : decode cL_law 805 = .ok (.iconst 0, 1) := db_3 (bt_of (i := 37) lb_12 rfl rfl (by decide))
theorem dL_law_806 : decode cL_law 806 = .ok (.ireturn, 1) := db_172 (bt_of (i := 38) lb_12 rfl rfl (by decide))
theorem dL_law_807 : decode cL_law 807 = .ok (.iload 5, 2) := db_21 (bt_of (i := 39) lb_12 rfl rfl (by decide)) (bt_of (i := 40) lb_12 rfl rfl (by decide))
theorem dL_law_809 : decode cL_law 809 = .ok (.ifCond .ne 15, 3) := db_154 (bt_of (i := 41) lb_12 rfl rfl (by decide)) (bt_of (i := 42) lb_12 rfl rfl (by decide)) (bt_of (i := 43) lb_12 rfl rfl (by decide)) (by decide +kernel)
theorem dL_law_812 : decode cL_law 812 = .ok (.aload_n 3, 1) := db_45 (bt_of (i := 44) lb_12 rfl rfl (by decide))
theorem dL_law_813 : decode cL_law 813 = .ok (.iconst 0, 1) := db_3 (bt_of (i := 45) lb_12 rfl rfl (by decide))
theorem dL_law_814 : decode cL_law 814 = .ok (.laload, 1) := db_47 (bt_of (i := 46) lb_12 rfl rfl (by decide))
theorem dL_law_815 : decode cL_law 815 = .ok (.iload 6, 2) := db_21 (bt_of (i := 47) lb_12 rfl rfl (by decide)) (bt_of (i := 48) lb_12 rfl rfl (by decide))
theorem dL_law_817 : decode cL_law 817 = .ok (.i2l, 1) := db_133 (bt_of (i := 49) lb_12 rfl rfl (by decide))
theorem dL_law_818 : decode cL_law 818 = .ok (.lcmp, 1) := db_148 (bt_of (i := 50) lb_12 rfl rfl (by decide))
theorem dL_law_819 : decode cL_law 819 = .ok (.ifCond .eq 5, 3) := db_153 (bt_of (i := 51) lb_12 rfl rfl (by decide)) (bt_of (i := 52) lb_12 rfl rfl (by decide)) (bt_of (i := 53) lb_12 rfl rfl (by decide)) (by decide +kernel)
theorem dL_law_822 : decode cL_law 822 = .ok (.iconst 0, 1) := db_3 (bt_of (i := 54) lb_12 rfl rfl (by decide))
theorem dL_law_823 : decode cL_law 823 = .ok (.ireturn, 1) := db_172 (bt_of (i := 55) lb_12 rfl rfl (by decide))
theorem dL_law_824 : decode cL_law 824 = .ok (.goto 2723, 3) := db_167 (bt_of (i := 56) lb_12 rfl rfl (by decide)) (bt_of (i := 57) lb_12 rfl rfl (by decide)) (bt_of (i := 58) lb_12 rfl rfl (by decide)) (by decide +kernel)
theorem dL_law_827 : decode cL_law 827 = .ok (.aload_n 1, 1) := db_43 (bt_of (i := 59) lb_12 rfl rfl (by decide))
theorem dL_law_828 : decode cL_law 828 = .ok (.aload_n 0, 1) := db_42 (bt_of (i := 60) lb_12 rfl rfl (by decide))
theorem dL_law_829 : decode cL_law 829 = .ok (.iload 4, 2) := db_21 (bt_of (i := 61) lb_12 rfl rfl (by decide)) (bt_of (i := 62) lb_12 rfl rfl (by decide))
theorem dL_law_831 : decode cL_law 831 = .ok (.iconst 1, 1) := db_4 (bt_of (i := 63) lb_12 rfl rfl (by decide))
theorem dL_law_832 : decode cL_law 832 = .ok (.iadd, 1) := db_96 (bt_of (i := 0) lb_13 rfl rfl (by decide))
theorem dL_law_833 : decode cL_law 833 = .ok (.iaload, 1) := db_46 (bt_of (i := 1) lb_13 rfl rfl (by decide))
theorem dL_law_834 : decode cL_law 834 = .ok (.aload_n 0, 1) := db_42 (bt_of (i := 2) lb_13 rfl rfl (by decide))
theorem dL_law_835 : decode cL_law 835 = .ok (.iload 4, 2) := db_21 (bt_of (i := 3) lb_13 rfl rfl (by decide)) (bt_of (i := 4) lb_13 rfl rfl (by decide))
theorem dL_law_837 : decode cL_law 837 = .ok (.iconst 2, 1) := db_5 (bt_of (i := 5) lb_13 rfl rfl (by decide))
theorem dL_law_838 : decode cL_law 838 = .ok (.iadd, 1) := db_96 (bt_of (i := 6) lb_13 rfl rfl (by decide))
theorem dL_law_839 : decode cL_law 839 = .ok (.iaload, 1) := db_46 (bt_of (i := 7) lb_13 rfl rfl (by decide))
theorem dL_law_840 : decode cL_law 840 = .ok (.aload_n 0, 1) := db_42 (bt_of (i := 8) lb_13 rfl rfl (by decide))
theorem dL_law_841 : decode cL_law 841 = .ok (.iload 4, 2) := db_21 (bt_of (i := 9) lb_13 rfl rfl (by decide)) (bt_of (i := 10) lb_13 rfl rfl (by decide))
theorem dL_law_843 : decode cL_law 843 = .ok (.iconst 3, 1) := db_6 (bt_of (i := 11) lb_13 rfl rfl (by decide))
theorem dL_law_844 : decode cL_law 844 = .ok (.iadd, 1) := db_96 (bt_of (i := 12) lb_13 rfl rfl (by decide))
theorem dL_law_845 : decode cL_law 845 = .ok (.iaload, 1) := db_46 (bt_of (i := 13) lb_13 rfl rfl (by decide))
theorem dL_law_846 : decode cL_law 846 = .ok (.aload_n 3, 1) := db_45 (bt_of (i := 14) lb_13 rfl rfl (by decide))
theorem dL_law_847 : decode cL_law 847 = .ok (.invokestatic 215, 3) := db_184 (bt_of (i := 15) lb_13 rfl rfl (by decide)) (bt_of (i := 16) lb_13 rfl rfl (by decide)) (bt_of (i := 17) lb_13 rfl rfl (by decide))
theorem dL_law_850 : decode cL_law 850 = .ok (.istore 5, 2) := db_54 (bt_of (i := 18) lb_13 rfl rfl (by decide)) (bt_of (i := 19) lb_13 rfl rfl (by decide))
theorem dL_law_852 : decode cL_law 852 = .ok (.aload_n 2, 1) := db_44 (bt_of (i := 20) lb_13 rfl rfl (by decide))
theorem dL_law_853 : decode cL_law 853 = .ok (.aload_n 0, 1) := db_42 (bt_of (i := 21) lb_13 rfl rfl (by decide))
theorem dL_law_854 : decode cL_law 854 = .ok (.iload 4, 2) := db_21 (bt_of (i := 22) lb_13 rfl rfl (by decide)) (bt_of (i := 23) lb_13 rfl rfl (by decide))
theorem dL_law_856 : decode cL_law 856 = .ok (.iconst 1, 1) := db_4 (bt_of (i := 24) lb_13 rfl rfl (by decide))
theorem dL_law_857 : decode cL_law 857 = .ok (.iadd, 1) := db_96 (bt_of (i := 25) lb_13 rfl rfl (by decide))
theorem dL_law_858 : decode cL_law 858 = .ok (.iaload, 1) := db_46 (bt_of (i := 26) lb_13 rfl rfl (by decide))
theorem dL_law_859 : decode cL_law 859 = .ok (.aload_n 0, 1) := db_42 (bt_of (i := 27) lb_13 rfl rfl (by decide))
theorem dL_law_860 : decode cL_law 860 = .ok (.iload 4, 2) := db_21 (bt_of (i := 28) lb_13 rfl rfl (by decide)) (bt_of (i := 29) lb_13 rfl rfl (by decide))
theorem dL_law_862 : decode cL_law 862 = .ok (.iconst 2, 1) := db_5 (bt_of (i := 30) lb_13 rfl rfl (by decide))
theorem dL_law_863 : decode cL_law 863 = .ok (.iadd, 1) := db_96 (bt_of (i := 31) lb_13 rfl rfl (by decide))
theorem dL_law_864 : decode cL_law 864 = .ok (.iaload, 1) := db_46 (bt_of (i := 32) lb_13 rfl rfl (by decide))
theorem dL_law_865 : decode cL_law 865 = .ok (.aload_n 0, 1) := db_42 (bt_of (i := 33) lb_13 rfl rfl (by decide))
theorem dL_law_866 : decode cL_law 866 = .ok (.iload 4, 2) := db_21 (bt_of (i := 34) lb_13 rfl rfl (by decide)) (bt_of (i := 35) lb_13 rfl rfl (by decide))
theorem dL_law_868 : decode cL_law 868 = .ok (.iconst 3, 1) := db_6 (bt_of (i := 36) lb_13 rfl rfl (by decide))
theorem dL_law_869 : decode cL_law 869 = .ok (.iadd, 1) := db_96 (bt_of (i := 37) lb_13 rfl rfl (by decide))
theorem dL_law_870 : decode cL_law 870 = .ok (.iaload, 1) := db_46 (bt_of (i := 38) lb_13 rfl rfl (by decide))
theorem dL_law_871 : decode cL_law 871 = .ok (.invokevirtual 218, 3) := db_182 (bt_of (i := 39) lb_13 rfl rfl (by decide)) (bt_of (i := 40) lb_13 rfl rfl (by decide)) (bt_of (i := 41) lb_13 rfl rfl (by decide))
theorem dL_law_874 : decode cL_law 874 = .ok (.istore 6, 2) := db_54 (bt_of (i := 42) lb_13 rfl rfl (by decide)) (bt_of (i := 43) lb_13 rfl rfl (by decide))
theorem dL_law_876 : decode cL_law 876 = .ok (.aload_n 2, 1) := db_44 (bt_of (i := 44) lb_13 rfl rfl (by decide))
theorem dL_law_877 : decode cL_law 877 = .ok (.invokevirtual 179, 3) := db_182 (bt_of (i := 45) lb_13 rfl rfl (by decide)) (bt_of (i := 46) lb_13 rfl rfl (by decide)) (bt_of (i := 47) lb_13 rfl rfl (by decide))
theorem dL_law_880 : decode cL_law 880 = .ok (.iload 5, 2) := db_21 (bt_of (i := 48) lb_13 rfl rfl (by decide)) (bt_of (i := 49) lb_13 rfl rfl (by decide))
theorem dL_law_882 : decode cL_law 882 = .ok (.if_icmp .eq 5, 3) := db_159 (bt_of (i := 50) lb_13 rfl rfl (by decide)) (bt_of (i := 51) lb_13 rfl rfl (by decide)) (bt_of (i := 52) lb_13 rfl rfl (by decide)) (by decide +kernel)
theorem dL_law_885 : decode cL_law 885 = .ok (.iconst 0, 1) := db_3 (bt_of (i := 53) lb_13 rfl rfl (by decide))
theorem dL_law_886 : decode cL_law 886 = .ok (.ireturn, 1) := db_172 (bt_of (i := 54) lb_13 rfl rfl (by decide))
theorem dL_law_887 : decode cL_law 887 = .ok (.iload 5, 2) := db_21 (bt_of (i := 55) lb_13 rfl rfl (by decide)) (bt_of (i := 56) lb_13 rfl rfl (by decide))
theorem dL_law_889 : decode cL_law 889 = .ok (.ifCond .ne 15, 3) := db_154 (bt_of (i := 57) lb_13 rfl rfl (by decide)) (bt_of (i := 58) lb_13 rfl rfl (by decide)) (bt_of (i := 59) lb_13 rfl rfl (by decide)) (by decide +kernel)
theorem dL_law_892 : decode cL_law 892 = .ok (.aload_n 3, 1) := db_45 (bt_of (i := 60) lb_13 rfl rfl (by decide))
theorem dL_law_893 : decode cL_law 893 = .ok (.iconst 0, 1) := db_3 (bt_of (i := 61) lb_13 rfl rfl (by decide))
theorem dL_law_894 : decode cL_law 894 = .ok (.laload, 1) := db_47 (bt_of (i := 62) lb_13 rfl rfl (by decide))
theorem dL_law_895 : decode cL_law 895 = .ok (.iload 6, 2) := db_21 (bt_of (i := 63) lb_13 rfl rfl (by decide)) (bt_of (i := 0) lb_14 rfl rfl (by decide))
theorem dL_law_897 : decode cL_law 897 = .ok (.i2l, 1) := db_133 (bt_of (i := 1) lb_14 rfl rfl (by decide))
theorem dL_law_898 : decode cL_law 898 = .ok (.lcmp, 1) := db_148 (bt_of (i := 2) lb_14 rfl rfl (by decide))
theorem dL_law_899 : decode cL_law 899 = .ok (.ifCond .eq 5, 3) := db_153 (bt_of (i := 3) lb_14 rfl rfl (by decide)) (bt_of (i := 4) lb_14 rfl rfl (by decide)) (bt_of (i := 5) lb_14 rfl rfl (by decide)) (by decide +kernel)
theorem dL_law_902 : decode cL_law 902 = .ok (.iconst 0, 1) := db_3 (bt_of (i := 6) lb_14 rfl rfl (by decide))
theorem dL_law_903 : decode cL_law 903 = .ok (.ireturn, 1) := db_172 (bt_of (i := 7) lb_14 rfl rfl (by decide))
theorem dL_law_904 : decode cL_law 904 = .ok (.goto 2643, 3) := db_167 (bt_of (i := 8) lb_14 rfl rfl (by decide)) (bt_of (i := 9) lb_14 rfl rfl (by decide)) (bt_of (i := 10) lb_14 rfl rfl (by decide)) (by decide +kernel)
theorem dL_law_907 : decode cL_law 907 = .ok (.aload_n 1, 1) := db_43 (bt_of (i := 11) lb_14 rfl rfl (by decide))
theorem dL_law_908 : decode cL_law 908 = .ok (.aload_n 0, 1) := db_42 (bt_of (i := 12) lb_14 rfl rfl (by decide))
theorem dL_law_909 : decode cL_law 909 = .ok (.iload 4, 2) := db_21 (bt_of (i := 13) lb_14 rfl rfl (by decide)) (bt_of (i := 14) lb_14 rfl rfl (by decide))
theorem dL_law_911 : decode cL_law 911 = .ok (.iconst 1, 1) := db_4 (bt_of (i := 15) lb_14 rfl rfl (by decide))
theorem dL_law_912 : decode cL_law 912 = .ok (.iadd, 1) := db_96 (bt_of (i := 16) lb_14 rfl rfl (by decide))
theorem dL_law_913 : decode cL_law 913 = .ok (.iaload, 1) := db_46 (bt_of (i := 17) lb_14 rfl rfl (by decide))
theorem dL_law_914 : decode cL_law 914 = .ok (.aload_n 0, 1) := db_42 (bt_of (i := 18) lb_14 rfl rfl (by decide))
theorem dL_law_915 : decode cL_law 915 = .ok (.iload 4, 2) := db_21 (bt_of (i := 19) lb_14 rfl rfl (by decide)) (bt_of (i := 20) lb_14 rfl rfl (by decide))
theorem dL_law_917 : decode cL_law 917 = .ok (.iconst 2, 1) := db_5 (bt_of (i := 21) lb_14 rfl rfl (by decide))
theorem dL_law_918 : decode cL_law 918 = .ok (.iadd, 1) := db_96 (bt_of (i := 22) lb_14 rfl rfl (by decide))
theorem dL_law_919 : decode cL_law 919 = .ok (.iaload, 1) := db_46 (bt_of (i := 23) lb_14 rfl rfl (by decide))
theorem dL_law_920 : decode cL_law 920 = .ok (.aload_n 0, 1) := db_42 (bt_of (i := 24) lb_14 rfl rfl (by decide))
theorem dL_law_921 : decode cL_law 921 = .ok (.iload 4, 2) := db_21 (bt_of (i := 25) lb_14 rfl rfl (by decide)) (bt_of (i := 26) lb_14 rfl rfl (by decide))
theorem dL_law_923 : decode cL_law 923 = .ok (.iconst 3, 1) := db_6 (bt_of (i := 27) lb_14 rfl rfl (by decide))
theorem dL_law_924 : decode cL_law 924 = .ok (.iadd, 1) := db_96 (bt_of (i := 28) lb_14 rfl rfl (by decide))
theorem dL_law_925 : decode cL_law 925 = .ok (.iaload, 1) := db_46 (bt_of (i := 29) lb_14 rfl rfl (by decide))
theorem dL_law_926 : decode cL_law 926 = .ok (.i2c, 1) := db_146 (bt_of (i := 30) lb_14 rfl rfl (by decide))
theorem dL_law_927 : decode cL_law 927 = .ok (.aload_n 0, 1) := db_42 (bt_of (i := 31) lb_14 rfl rfl (by decide))
theorem dL_law_928 : decode cL_law 928 = .ok (.iload 4, 2) := db_21 (bt_of (i := 32) lb_14 rfl rfl (by decide)) (bt_of (i := 33) lb_14 rfl rfl (by decide))
theorem dL_law_930 : decode cL_law 930 = .ok (.iconst 4, 1) := db_7 (bt_of (i := 34) lb_14 rfl rfl (by decide))
theorem dL_law_931 : decode cL_law 931 = .ok (.iadd, 1) := db_96 (bt_of (i := 35) lb_14 rfl rfl (by decide))
theorem dL_law_932 : decode cL_law 932 = .ok (.iaload, 1) := db_46 (bt_of (i := 36) lb_14 rfl rfl (by decide))
theorem dL_law_933 : decode cL_law 933 = .ok (.aload_n 3, 1) := db_45 (bt_of (i := 37) lb_14 rfl rfl (by decide))
theorem dL_law_934 : decode cL_law 934 = .ok (.invokestatic 219, 3) := db_184 (bt_of (i := 38) lb_14 rfl rfl (by decide)) (bt_of (i := 39) lb_14 rfl rfl (by decide)) (bt_of (i := 40) lb_14 rfl rfl (by decide))
theorem dL_law_937 : decode cL_law 937 = .ok (.istore 5, 2) := db_54 (bt_of (i := 41) lb_14 rfl rfl (by decide)) (bt_of (i := 42) lb_14 rfl rfl (by decide))
theorem dL_law_939 : decode cL_law 939 = .ok (.aload_n 2, 1) := db_44 (bt_of (i := 43) lb_14 rfl rfl (by decide))
theorem dL_law_940 : decode cL_law 940 = .ok (.aload_n 0, 1) := db_42 (bt_of (i := 44) lb_14 rfl rfl (by decide))
theorem dL_law_941 : decode cL_law 941 = .ok (.iload 4, 2) := db_21 (bt_of (i := 45) lb_14 rfl rfl (by decide)) (bt_of (i := 46) lb_14 rfl rfl (by decide))
theorem dL_law_943 : decode cL_law 943 = .ok (.iconst 1, 1) := db_4 (bt_of (i := 47) lb_14 rfl rfl (by decide))
theorem dL_law_944 : decode cL_law 944 = .ok (.iadd, 1) := db_96 (bt_of (i := 48) lb_14 rfl rfl (by decide))
theorem dL_law_945 : decode cL_law 945 = .ok (.iaload, 1) := db_46 (bt_of (i := 49) lb_14 rfl rfl (by decide))
theorem dL_law_946 : decode cL_law 946 = .ok (.aload_n 0, 1) := db_42 (bt_of (i := 50) lb_14 rfl rfl (by decide))
theorem dL_law_947 : decode cL_law 947 = .ok (.iload 4, 2) := db_21 (bt_of (i := 51) lb_14 rfl rfl (by decide)) (bt_of (i := 52) lb_14 rfl rfl (by decide))
theorem dL_law_949 : decode cL_law 949 = .ok (.iconst 2, 1) := db_5 (bt_of (i := 53) lb_14 rfl rfl (by decide))
theorem dL_law_950 : decode cL_law 950 = .ok (.iadd, 1) := db_96 (bt_of (i := 54) lb_14 rfl rfl (by decide))
theorem dL_law_951 : decode cL_law 951 = .ok (.iaload, 1) := db_46 (bt_of (i := 55) lb_14 rfl rfl (by decide))
theorem dL_law_952 : decode cL_law 952 = .ok (.aload_n 0, 1) := db_42 (bt_of (i := 56) lb_14 rfl rfl (by decide))
theorem dL_law_953 : decode cL_law 953 = .ok (.iload 4, 2) := db_21 (bt_of (i := 57) lb_14 rfl rfl (by decide)) (bt_of (i := 58) lb_14 rfl rfl (by decide))
theorem dL_law_955 : decode cL_law 955 = .ok (.iconst 3, 1) := db_6 (bt_of (i := 59) lb_14 rfl rfl (by decide))
theorem dL_law_956 : decode cL_law 956 = .ok (.iadd, 1) := db_96 (bt_of (i := 60) lb_14 rfl rfl (by decide))
theorem dL_law_957 : decode cL_law 957 = .ok (.iaload, 1) := db_46 (bt_of (i := 61) lb_14 rfl rfl (by decide))
theorem dL_law_958 : decode cL_law 958 = .ok (.i2c, 1) := db_146 (bt_of (i := 62) lb_14 rfl rfl (by decide))
theorem dL_law_959 : decode cL_law 959 = .ok (.aload_n 0, 1) := db_42 (bt_of (i := 63) lb_14 rfl rfl (by decide))
theorem dL_law_960 : decode cL_law 960 = .ok (.iload 4, 2) := db_21 (bt_of (i := 0) lb_15 rfl rfl (by decide)) (bt_of (i := 1) lb_15 rfl rfl (by decide))
theorem dL_law_962 : decode cL_law 962 = .ok (.iconst 4, 1) := db_7 (bt_of (i := 2) lb_15 rfl rfl (by decide))
theorem dL_law_963 : decode cL_law 963 = .ok (.iadd, 1) := db_96 (bt_of (i := 3) lb_15 rfl rfl (by decide))
theorem dL_law_964 : decode cL_law 964 = .ok (.iaload, 1) := db_46 (bt_of (i := 4) lb_15 rfl rfl (by decide))
theorem dL_law_965 : decode cL_law 965 = .ok (.invokevirtual 221, 3) := db_182 (bt_of (i := 5) lb_15 rfl rfl (by decide)) (bt_of (i := 6) lb_15 rfl rfl (by decide)) (bt_of (i := 7) lb_15 rfl rfl (by decide))
theorem dL_law_968 : decode cL_law 968 = .ok (.istore 6, 2) := db_54 (bt_of (i := 8) lb_15 rfl rfl (by decide)) (bt_of (i := 9) lb_15 rfl rfl (by decide))
theorem dL_law_970 : decode cL_law 970 = .ok (.aload_n 2, 1) := db_44 (bt_of (i := 10) lb_15 rfl rfl (by decide))
theorem dL_law_971 : decode cL_law 971 = .ok (.invokevirtual 179, 3) := db_182 (bt_of (i := 11) lb_15 rfl rfl (by decide)) (bt_of (i := 12) lb_15 rfl rfl (by decide)) (bt_of (i := 13) lb_15 rfl rfl (by decide))
theorem dL_law_974 : decode cL_law 974 = .ok (.iload 5, 2) := db_21 (bt_of (i := 14) lb_15 rfl rfl (by decide)) (bt_of (i := 15) lb_15 rfl rfl (by decide))
theorem dL_law_976 : decode cL_law 976 = .ok (.if_icmp .eq 5, 3) := db_159 (bt_of (i := 16) lb_15 rfl rfl (by decide)) (bt_of (i := 17) lb_15 rfl rfl (by decide)) (bt_of (i := 18) lb_15 rfl rfl (by decide)) (by decide +kernel)
theorem dL_law_979 : decode cL_law 979 = .ok (.iconst 0, 1) := db_3 (bt_of (i := 19) lb_15 rfl rfl (by decide))
theorem dL_law_980 : decode cL_law 980 = .ok (.ireturn, 1) := db_172 (bt_of (i := 20) lb_15 rfl rfl (by decide))
theorem dL_law_981 : decode cL_law 981 = .ok (.iload 5, 2) := db_21 (bt_of (i := 21) lb_15 rfl rfl (by decide)) (bt_of (i := 22) lb_15 rfl rfl (by decide))
theorem dL_law_983 : decode cL_law 983 = .ok (.ifCond .ne 15, 3) := db_154 (bt_of (i := 23) lb_15 rfl rfl (by decide)) (bt_of (i := 24) lb_15 rfl rfl (by decide)) (bt_of (i := 25) lb_15 rfl rfl (by decide)) (by decide +kernel)
theorem dL_law_986 : decode cL_law 986 = .ok (.aload_n 3, 1) := db_45 (bt_of (i := 26) lb_15 rfl rfl (by decide))
theorem dL_law_987 : decode cL_law 987 = .ok (.iconst 0, 1) := db_3 (bt_of (i := 27) lb_15 rfl rfl (by decide))
theorem dL_law_988 : decode cL_law 988 = .ok (.laload, 1) := db_47 (bt_of (i := 28) lb_15 rfl rfl (by decide))
theorem dL_law_989 : decode cL_law 989 = .ok (.iload 6, 2) := db_21 (bt_of (i := 29) lb_15 rfl rfl (by decide)) (bt_of (i := 30) lb_15 rfl rfl (by decide))
theorem dL_law_991 : decode cL_law 991 = .ok (.i2l, 1) := db_133 (bt_of (i := 31) lb_15 rfl rfl (by decide))
theorem dL_law_992 : decode cL_law 992 = .ok (.lcmp, 1) := db_148 (bt_of (i := 32) lb_15 rfl rfl (by decide))
theorem dL_law_993 : decode cL_law 993 = .ok (.ifCond .eq 5, 3) := db_153 (bt_of (i := 33) lb_15 rfl rfl (by decide)) (bt_of (i := 34) lb_15 rfl rfl (by decide)) (bt_of (i := 35) lb_15 rfl rfl (by decide)) (by decide +kernel)
theorem dL_law_996 : decode cL_law 996 = .ok (.iconst 0, 1) := db_3 (bt_of (i := 36) lb_15 rfl rfl (by decide))
theorem dL_law_997 : decode cL_law 997 = .ok (.ireturn, 1) := db_172 (bt_of (i := 37) lb_15 rfl rfl (by decide))
theorem dL_law_998 : decode cL_law 998 = .ok (.goto 2549, 3) := db_167 (bt_of (i := 38) lb_15 rfl rfl (by decide)) (bt_of (i := 39) lb_15 rfl rfl (by decide)) (bt_of (i := 40) lb_15 rfl rfl (by decide)) (by decide +kernel)
theorem dL_law_1001 : decode cL_law 1001 = .ok (.aload_n 1, 1) := db_43 (bt_of (i := 41) lb_15 rfl rfl (by decide))
theorem dL_law_1002 : decode cL_law 1002 = .ok (.aload_n 0, 1) := db_42 (bt_of (i := 42) lb_15 rfl rfl (by decide))
theorem dL_law_1003 : decode cL_law 1003 = .ok (.iload 4, 2) := db_21 (bt_of (i := 43) lb_15 rfl rfl (by decide)) (bt_of (i := 44) lb_15 rfl rfl (by decide))
theorem dL_law_1005 : decode cL_law 1005 = .ok (.iconst 1, 1) := db_4 (bt_of (i := 45) lb_15 rfl rfl (by decide))
theorem dL_law_1006 : decode cL_law 1006 = .ok (.iadd, 1) := db_96 (bt_of (i := 46) lb_15 rfl rfl (by decide))
theorem dL_law_1007 : decode cL_law 1007 = .ok (.iaload, 1) := db_46 (bt_of (i := 47) lb_15 rfl rfl (by decide))
theorem dL_law_1008 : decode cL_law 1008 = .ok (.aload_n 0, 1) := db_42 (bt_of (i := 48) lb_15 rfl rfl (by decide))
theorem dL_law_1009 : decode cL_law 1009 = .ok (.iload 4, 2) := db_21 (bt_of (i := 49) lb_15 rfl rfl (by decide)) (bt_of (i := 50) lb_15 rfl rfl (by decide))
theorem dL_law_1011 : decode cL_law 1011 = .ok (.iconst 2, 1) := db_5 (bt_of (i := 51) lb_15 rfl rfl (by decide))
theorem dL_law_1012 : decode cL_law 1012 = .ok (.iadd, 1) := db_96 (bt_of (i := 52) lb_15 rfl rfl (by decide))
theorem dL_law_1013 : decode cL_law 1013 = .ok (.iaload, 1) := db_46 (bt_of (i := 53) lb_15 rfl rfl (by decide))
theorem dL_law_1014 : decode cL_law 1014 = .ok (.aload_n 0, 1) := db_42 (bt_of (i := 54) lb_15 rfl rfl (by decide))
theorem dL_law_1015 : decode cL_law 1015 = .ok (.iload 4, 2) := db_21 (bt_of (i := 55) lb_15 rfl rfl (by decide)) (bt_of (i := 56) lb_15 rfl rfl (by decide))
theorem dL_law_1017 : decode cL_law 1017 = .ok (.iconst 3, 1) := db_6 (bt_of (i := 57) lb_15 rfl rfl (by decide))
theorem dL_law_1018 : decode cL_law 1018 = .ok (.iadd, 1) := db_96 (bt_of (i := 58) lb_15 rfl rfl (by decide))
theorem dL_law_1019 : decode cL_law 1019 = .ok (.iaload, 1) := db_46 (bt_of (i := 59) lb_15 rfl rfl (by decide))
theorem dL_law_1020 : decode cL_law 1020 = .ok (.i2c, 1) := db_146 (bt_of (i := 60) lb_15 rfl rfl (by decide))
theorem dL_law_1021 : decode cL_law 1021 = .ok (.aload_n 0, 1) := db_42 (bt_of (i := 61) lb_15 rfl rfl (by decide))
theorem dL_law_1022 : decode cL_law 1022 = .ok (.iload 4, 2) := db_21 (bt_of (i := 62) lb_15 rfl rfl (by decide)) (bt_of (i := 63) lb_15 rfl rfl (by decide))
theorem dL_law_1024 : decode cL_law 1024 = .ok (.iconst 4, 1) := db_7 (bt_of (i := 0) lb_16 rfl rfl (by decide))
theorem dL_law_1025 : decode cL_law 1025 = .ok (.iadd, 1) := db_96 (bt_of (i := 1) lb_16 rfl rfl (by decide))
theorem dL_law_1026 : decode cL_law 1026 = .ok (.iaload, 1) := db_46 (bt_of (i := 2) lb_16 rfl rfl (by decide))
theorem dL_law_1027 : decode cL_law 1027 = .ok (.aload_n 3, 1) := db_45 (bt_of (i := 3) lb_16 rfl rfl (by decide))
theorem dL_law_1028 : decode cL_law 1028 = .ok (.invokestatic 222, 3) := db_184 (bt_of (i := 4) lb_16 rfl rfl (by decide)) (bt_of (i := 5) lb_16 rfl rfl (by decide)) (bt_of (i := 6) lb_16 rfl rfl (by decide))
theorem dL_law_1031 : decode cL_law 1031 = .ok (.istore 5, 2) := db_54 (bt_of (i := 7) lb_16 rfl rfl (by decide)) (bt_of (i := 8) lb_16 rfl rfl (by decide))
theorem dL_law_1033 : decode cL_law 1033 = .ok (.aload_n 2, 1) := db_44 (bt_of (i := 9) lb_16 rfl rfl (by decide))
theorem dL_law_1034 : decode cL_law 1034 = .ok (.aload_n 0, 1) := db_42 (bt_of (i := 10) lb_16 rfl rfl (by decide))
theorem dL_law_1035 : decode cL_law 1035 = .ok (.iload 4, 2) := db_21 (bt_of (i := 11) lb_16 rfl rfl (by decide)) (bt_of (i := 12) lb_16 rfl rfl (by decide))
theorem dL_law_1037 : decode cL_law 1037 = .ok (.iconst 1, 1) := db_4 (bt_of (i := 13) lb_16 rfl rfl (by decide))
theorem dL_law_1038 : decode cL_law 1038 = .ok (.iadd, 1) := db_96 (bt_of (i := 14) lb_16 rfl rfl (by decide))
theorem dL_law_1039 : decode cL_law 1039 = .ok (.iaload, 1) := db_46 (bt_of (i := 15) lb_16 rfl rfl (by decide))
theorem dL_law_1040 : decode cL_law 1040 = .ok (.aload_n 0, 1) := db_42 (bt_of (i := 16) lb_16 rfl rfl (by decide))
theorem dL_law_1041 : decode cL_law 1041 = .ok (.iload 4, 2) := db_21 (bt_of (i := 17) lb_16 rfl rfl (by decide)) (bt_of (i := 18) lb_16 rfl rfl (by decide))
theorem dL_law_1043 : decode cL_law 1043 = .ok (.iconst 2, 1) := db_5 (bt_of (i := 19) lb_16 rfl rfl (by decide))
theorem dL_law_1044 : decode cL_law 1044 = .ok (.iadd, 1) := db_96 (bt_of (i := 20) lb_16 rfl rfl (by decide))
theorem dL_law_1045 : decode cL_law 1045 = .ok (.iaload, 1) := db_46 (bt_of (i := 21) lb_16 rfl rfl (by decide))
theorem dL_law_1046 : decode cL_law 1046 = .ok (.aload_n 0, 1) := db_42 (bt_of (i := 22) lb_16 rfl rfl (by decide))
theorem dL_law_1047 : decode cL_law 1047 = .ok (.iload 4, 2) := db_21 (bt_of (i := 23) lb_16 rfl rfl (by decide)) (bt_of (i := 24) lb_16 rfl rfl (by decide))
theorem dL_law_1049 : decode cL_law 1049 = .ok (.iconst 3, 1) := db_6 (bt_of (i := 25) lb_16 rfl rfl (by decide))
theorem dL_law_1050 : decode cL_law 1050 = .ok (.iadd, 1) := db_96 (bt_of (i := 26) lb_16 rfl rfl (by decide))
theorem dL_law_1051 : decode cL_law 1051 = .ok (.iaload, 1) := db_46 (bt_of (i := 27) lb_16 rfl rfl (by decide))
theorem dL_law_1052 : decode cL_law 1052 = .ok (.i2c, 1) := db_146 (bt_of (i := 28) lb_16 rfl rfl (by decide))
theorem dL_law_1053 : decode cL_law 1053 = .ok (.aload_n 0, 1) := db_42 (bt_of (i := 29) lb_16 rfl rfl (by decide))
theorem dL_law_1054 : decode cL_law 1054 = .ok (.iload 4, 2) := db_21 (bt_of (i := 30) lb_16 rfl rfl (by decide)) (bt_of (i := 31) lb_16 rfl rfl (by decide))
theorem dL_law_1056 : decode cL_law 1056 = .ok (.iconst 4, 1) := db_7 (bt_of (i := 32) lb_16 rfl rfl (by decide))
theorem dL_law_1057 : decode cL_law 1057 = .ok (.iadd, 1) := db_96 (bt_of (i := 33) lb_16 rfl rfl (by decide))
theorem dL_law_1058 : decode cL_law 1058 = .ok (.iaload, 1) := db_46 (bt_of (i := 34) lb_16 rfl rfl (by decide))
theorem dL_law_1059 : decode cL_law 1059 = .ok (.invokevirtual 224, 3) := db_182 (bt_of (i := 35) lb_16 rfl rfl (by decide)) (bt_of (i := 36) lb_16 rfl rfl (by decide)) (bt_of (i := 37) lb_16 rfl rfl (by decide))
theorem dL_law_1062 : decode cL_law 1062 = .ok (.istore 6, 2) := db_54 (bt_of (i := 38) lb_16 rfl rfl (by decide)) (bt_of (i := 39) lb_16 rfl rfl (by decide))
theorem dL_law_1064 : decode cL_law 1064 = .ok (.aload_n 2, 1) := db_44 (bt_of (i := 40) lb_16 rfl rfl (by decide))
theorem dL_law_1065 : decode cL_law 1065 = .ok (.invokevirtual 179, 3) := db_182 (bt_of (i := 41) lb_16 rfl rfl (by decide)) (bt_of (i := 42) lb_16 rfl rfl (by decide)) (bt_of (i := 43) lb_16 rfl rfl (by decide))
theorem dL_law_1068 : decode cL_law 1068 = .ok (.iload 5, 2) := db_21 (bt_of (i := 44) lb_16 rfl rfl (by decide)) (bt_of (i := 45) lb_16 rfl rfl (by decide))
theorem dL_law_1070 : decode cL_law 1070 = .ok (.if_icmp .eq 5, 3) := db_159 (bt_of (i := 46) lb_16 rfl rfl (by decide)) (bt_of (i := 47) lb_16 rfl rfl (by decide)) (bt_of (i := 48) lb_16 rfl rfl (by decide)) (by decide +kernel)
theorem dL_law_1073 : decode cL_law 1073 = .ok (.iconst 0, 1) := db_3 (bt_of (i := 49) lb_16 rfl rfl (by decide))
theorem dL_law_1074 : decode cL_law 1074 = .ok (.ireturn, 1) := db_172 (bt_of (i := 50) lb_16 rfl rfl (by decide))
theorem dL_law_1075 : decode cL_law 1075 = .ok (.iload 5, 2) := db_21 (bt_of (i := 51) lb_16 rfl rfl (by decide)) (bt_of (i := 52) lb_16 rfl rfl (by decide))
theorem dL_law_1077 : decode cL_law 1077 = .ok (.ifCond .ne 15, 3) := db_154 (bt_of (i := 53) lb_16 rfl rfl (by decide)) (bt_of (i := 54) lb_16 rfl rfl (by decide)) (bt_of (i := 55) lb_16 rfl rfl (by decide)) (by decide +kernel)
theorem dL_law_1080 : decode cL_law 1080 = .ok (.aload_n 3, 1) := db_45 (bt_of (i := 56) lb_16 rfl rfl (by decide))
theorem dL_law_1081 : decode cL_law 1081 = .ok (.iconst 0, 1) := db_3 (bt_of (i := 57) lb_16 rfl rfl (by decide))
theorem dL_law_1082 : decode cL_law 1082 = .ok (.laload, 1) := db_47 (bt_of (i := 58) lb_16 rfl rfl (by decide))
theorem dL_law_1083 : decode cL_law 1083 = .ok (.iload 6, 2) := db_21 (bt_of (i := 59) lb_16 rfl rfl (by decide)) (bt_of (i := 60) lb_16 rfl rfl (by decide))
theorem dL_law_1085 : decode cL_law 1085 = .ok (.i2l, 1) := db_133 (bt_of (i := 61) lb_16 rfl rfl (by decide))
theorem dL_law_1086 : decode cL_law 1086 = .ok (.lcmp, 1) := db_148 (bt_of (i := 62) lb_16 rfl rfl (by decide))
theorem dL_law_1087 : decode cL_law 1087 = .ok (.ifCond .eq 5, 3) := db_153 (bt_of (i := 63) lb_16 rfl rfl (by decide)) (bt_of (i := 0) lb_17 rfl rfl (by decide)) (bt_of (i := 1) lb_17 rfl rfl (by decide)) (by decide +kernel)
theorem dL_law_1090 : decode cL_law 1090 = .ok (.iconst 0, 1) := db_3 (bt_of (i := 2) lb_17 rfl rfl (by decide))
theorem dL_law_1091 : decode cL_law 1091 = .ok (.ireturn, 1) := db_172 (bt_of (i := 3) lb_17 rfl rfl (by decide))
theorem dL_law_1092 : decode cL_law 1092 = .ok (.goto 2455, 3) := db_167 (bt_of (i := 4) lb_17 rfl rfl (by decide)) (bt_of (i := 5) lb_17 rfl rfl (by decide)) (bt_of (i := 6) lb_17 rfl rfl (by decide)) (by decide +kernel)
theorem dL_law_1095 : decode cL_law 1095 = .ok (.aload_n 1, 1) := db_43 (bt_of (i := 7) lb_17 rfl rfl (by decide))
theorem dL_law_1096 : decode cL_law 1096 = .ok (.aload_n 0, 1) := db_42 (bt_of (i := 8) lb_17 rfl rfl (by decide))
theorem dL_law_1097 : decode cL_law 1097 = .ok (.iload 4, 2) := db_21 (bt_of (i := 9) lb_17 rfl rfl (by decide)) (bt_of (i := 10) lb_17 rfl rfl (by decide))
theorem dL_law_1099 : decode cL_law 1099 = .ok (.iconst 1, 1) := db_4 (bt_of (i := 11) lb_17 rfl rfl (by decide))
theorem dL_law_1100 : decode cL_law 1100 = .ok (.iadd, 1) := db_96 (bt_of (i := 12) lb_17 rfl rfl (by decide))
theorem dL_law_1101 : decode cL_law 1101 = .ok (.iaload, 1) := db_46 (bt_of (i := 13) lb_17 rfl rfl (by decide))
theorem dL_law_1102 : decode cL_law 1102 = .ok (.aload_n 0, 1) := db_42 (bt_of (i := 14) lb_17 rfl rfl (by decide))
theorem dL_law_1103 : decode cL_law 1103 = .ok (.iload 4, 2) := db_21 (bt_of (i := 15) lb_17 rfl rfl (by decide)) (bt_of (i := 16) lb_17 rfl rfl (by decide))
theorem dL_law_1105 : decode cL_law 1105 = .ok (.iconst 2, 1) := db_5 (bt_of (i := 17) lb_17 rfl rfl (by decide))
theorem dL_law_1106 : decode cL_law 1106 = .ok (.iadd, 1) := db_96 (bt_of (i := 18) lb_17 rfl rfl (by decide))
theorem dL_law_1107 : decode cL_law 1107 = .ok (.iaload, 1) := db_46 (bt_of (i := 19) lb_17 rfl rfl (by decide))
theorem dL_law_1108 : decode cL_law 1108 = .ok (.aload_n 0, 1) := db_42 (bt_of (i := 20) lb_17 rfl rfl (by decide))
theorem dL_law_1109 : decode cL_law 1109 = .ok (.iload 4, 2) := db_21 (bt_of (i := 21) lb_17 rfl rfl (by decide)) (bt_of (i := 22) lb_17 rfl rfl (by decide))
theorem dL_law_1111 : decode cL_law 1111 = .ok (.iconst 3, 1) := db_6 (bt_of (i := 23) lb_17 rfl rfl (by decide))
theorem dL_law_1112 : decode cL_law 1112 = .ok (.iadd, 1) := db_96 (bt_of (i := 24) lb_17 rfl rfl (by decide))
theorem dL_law_1113 : decode cL_law 1113 = .ok (.iaload, 1) := db_46 (bt_of (i := 25) lb_17 rfl rfl (by decide))
theorem dL_law_1114 : decode cL_law 1114 = .ok (.aload_n 0, 1) := db_42 (bt_of (i := 26) lb_17 rfl rfl (by decide))
theorem dL_law_1115 : decode cL_law 1115 = .ok (.iload 4, 2) := db_21 (bt_of (i := 27) lb_17 rfl rfl (by decide)) (bt_of (i := 28) lb_17 rfl rfl (by decide))
theorem dL_law_1117 : decode cL_law 1117 = .ok (.iconst 4, 1) := db_7 (bt_of (i := 29) lb_17 rfl rfl (by decide))
theorem dL_law_1118 : decode cL_law 1118 = .ok (.iadd, 1) := db_96 (bt_of (i := 30) lb_17 rfl rfl (by decide))
theorem dL_law_1119 : decode cL_law 1119 = .ok (.iaload, 1) := db_46 (bt_of (i := 31) lb_17 rfl rfl (by decide))
theorem dL_law_1120 : decode cL_law 1120 = .ok (.i2c, 1) := db_146 (bt_of (i := 32) lb_17 rfl rfl (by decide))
theorem dL_law_1121 : decode cL_law 1121 = .ok (.aload_n 0, 1) := db_42 (bt_of (i := 33) lb_17 rfl rfl (by decide))
theorem dL_law_1122 : decode cL_law 1122 = .ok (.iload 4, 2) := db_21 (bt_of (i := 34) lb_17 rfl rfl (by decide)) (bt_of (i := 35) lb_17 rfl rfl (by decide))
theorem dL_law_1124 : decode cL_law 1124 = .ok (.iconst 5, 1) := db_8 (bt_of (i := 36) lb_17 rfl rfl (by decide))
theorem dL_law_1125 : decode cL_law 1125 = .ok (.iadd, 1) := db_96 (bt_of (i := 37) lb_17 rfl rfl (by decide))
theorem dL_law_1126 : decode cL_law 1126 = .ok (.iaload, 1) := db_46 (bt_of (i := 38) lb_17 rfl rfl (by decide))
theorem dL_law_1127 : decode cL_law 1127 = .ok (.aload_n 3, 1) := db_45 (bt_of (i := 39) lb_17 rfl rfl (by decide))
theorem dL_law_1128 : decode cL_law 1128 = .ok (.invokestatic 225, 3) := db_184 (bt_of (i := 40) lb_17 rfl rfl (by decide)) (bt_of (i := 41) lb_17 rfl rfl (by decide)) (bt_of (i := 42) lb_17 rfl rfl (by decide))
theorem dL_law_1131 : decode cL_law 1131 = .ok (.istore 5, 2) := db_54 (bt_of (i := 43) lb_17 rfl rfl (by decide)) (bt_of (i := 44) lb_17 rfl rfl (by decide))
theorem dL_law_1133 : decode cL_law 1133 = .ok (.aload_n 2, 1) := db_44 (bt_of (i := 45) lb_17 rfl rfl (by decide))
theorem dL_law_1134 : decode cL_law 1134 = .ok (.aload_n 0, 1) := db_42 (bt_of (i := 46) lb_17 rfl rfl (by decide))
theorem dL_law_1135 : decode cL_law 1135 = .ok (.iload 4, 2) := db_21 (bt_of (i := 47) lb_17 rfl rfl (by decide)) (bt_of (i := 48) lb_17 rfl rfl (by decide))
theorem dL_law_1137 : decode cL_law 1137 = .ok (.iconst 1, 1) := db_4 (bt_of (i := 49) lb_17 rfl rfl (by decide))
theorem dL_law_1138 : decode cL_law 1138 = .ok (.iadd, 1) := db_96 (bt_of (i := 50) lb_17 rfl rfl (by decide))
theorem dL_law_1139 : decode cL_law 1139 = .ok (.iaload, 1) := db_46 (bt_of (i := 51) lb_17 rfl rfl (by decide))
theorem dL_law_1140 : decode cL_law 1140 = .ok (.aload_n 0, 1) := db_42 (bt_of (i := 52) lb_17 rfl rfl (by decide))
theorem dL_law_1141 : decode cL_law 1141 = .ok (.iload 4, 2) := db_21 (bt_of (i := 53) lb_17 rfl rfl (by decide)) (bt_of (i := 54) lb_17 rfl rfl (by decide))
theorem dL_law_1143 : decode cL_law 1143 = .ok (.iconst 2, 1) := db_5 (bt_of (i := 55) lb_17 rfl rfl (by decide))
theorem dL_law_1144 : decode cL_law 1144 = .ok (.iadd, 1) := db_96 (bt_of (i := 56) lb_17 rfl rfl (by decide))
theorem dL_law_1145 : decode cL_law 1145 = .ok (.iaload, 1) := db_46 (bt_of (i := 57) lb_17 rfl rfl (by decide))
theorem dL_law_1146 : decode cL_law 1146 = .ok (.aload_n 0, 1) := db_42 (bt_of (i := 58) lb_17 rfl rfl (by decide))
theorem dL_law_1147 : decode cL_law 1147 = .ok (.iload 4, 2) := db_21 (bt_of (i := 59) lb_17 rfl rfl (by decide)) (bt_of (i := 60) lb_17 rfl rfl (by decide))
theorem dL_law_1149 : decode cL_law 1149 = .ok (.iconst 3, 1) := db_6 (bt_of (i := 61) lb_17 rfl rfl (by decide))
theorem dL_law_1150 : decode cL_law 1150 = .ok (.iadd, 1) := db_96 (bt_of (i := 62) lb_17 rfl rfl (by decide))
theorem dL_law_1151 : decode cL_law 1151 = .ok (.iaload, 1) := db_46 (bt_of (i := 63) lb_17 rfl rfl (by decide))
theorem dL_law_1152 : decode cL_law 1152 = .ok (.aload_n 0, 1) := db_42 (bt_of (i := 0) lb_18 rfl rfl (by decide))
theorem dL_law_1153 : decode cL_law 1153 = .ok (.iload 4, 2) := db_21 (bt_of (i := 1) lb_18 rfl rfl (by decide)) (bt_of (i := 2) lb_18 rfl rfl (by decide))
theorem dL_law_1155 : decode cL_law 1155 = .ok (.iconst 4, 1) := db_7 (bt_of (i := 3) lb_18 rfl rfl (by decide))
theorem dL_law_1156 : decode cL_law 1156 = .ok (.iadd, 1) := db_96 (bt_of (i := 4) lb_18 rfl rfl (by decide))
theorem dL_law_1157 : decode cL_law 1157 = .ok (.iaload, 1) := db_46 (bt_of (i := 5) lb_18 rfl rfl (by decide))
theorem dL_law_1158 : decode cL_law 1158 = .ok (.i2c, 1) := db_146 (bt_of (i := 6) lb_18 rfl rfl (by decide))
theorem dL_law_1159 : decode cL_law 1159 = .ok (.aload_n 0, 1) := db_42 (bt_of (i := 7) lb_18 rfl rfl (by decide))
theorem dL_law_1160 : decode cL_law 1160 = .ok (.iload 4, 2) := db_21 (bt_of (i := 8) lb_18 rfl rfl (by decide)) (bt_of (i := 9) lb_18 rfl rfl (by decide))
theorem dL_law_1162 : decode cL_law 1162 = .ok (.iconst 5, 1) := db_8 (bt_of (i := 10) lb_18 rfl rfl (by decide))
theorem dL_law_1163 : decode cL_law 1163 = .ok (.iadd, 1) := db_96 (bt_of (i := 11) lb_18 rfl rfl (by decide))
theorem dL_law_1164 : decode cL_law 1164 = .ok (.iaload, 1) := db_46 (bt_of (i := 12) lb_18 rfl rfl (by decide))
theorem dL_law_1165 : decode cL_law 1165 = .ok (.invokevirtual 228, 3) := db_182 (bt_of (i := 13) lb_18 rfl rfl (by decide)) (bt_of (i := 14) lb_18 rfl rfl (by decide)) (bt_of (i := 15) lb_18 rfl rfl (by decide))
theorem dL_law_1168 : decode cL_law 1168 = .ok (.istore 6, 2) := db_54 (bt_of (i := 16) lb_18 rfl rfl (by decide)) (bt_of (i := 17) lb_18 rfl rfl (by decide))
theorem dL_law_1170 : decode cL_law 1170 = .ok (.aload_n 2, 1) := db_44 (bt_of (i := 18) lb_18 rfl rfl (by decide))
theorem dL_law_1171 : decode cL_law 1171 = .ok (.invokevirtual 179, 3) := db_182 (bt_of (i := 19) lb_18 rfl rfl (by decide)) (bt_of (i := 20) lb_18 rfl rfl (by decide)) (bt_of (i := 21) lb_18 rfl rfl (by decide))
theorem dL_law_1174 : decode cL_law 1174 = .ok (.iload 5, 2) := db_21 (bt_of (i := 22) lb_18 rfl rfl (by decide)) (bt_of (i := 23) lb_18 rfl rfl (by decide))
theorem dL_law_1176 : decode cL_law 1176 = .ok (.if_icmp .eq 5, 3) := db_159 (bt_of (i := 24) lb_18 rfl rfl (by decide)) (bt_of (i := 25) lb_18 rfl rfl (by decide)) (bt_of (i := 26) lb_18 rfl rfl (by decide)) (by decide +kernel)
theorem dL_law_1179 : decode cL_law 1179 = .ok (.iconst 0, 1) := db_3 (bt_of (i := 27) lb_18 rfl rfl (by decide))
theorem dL_law_1180 : decode cL_law 1180 = .ok (.ireturn, 1) := db_172 (bt_of (i := 28) lb_18 rfl rfl (by decide))
theorem dL_law_1181 : decode cL_law 1181 = .ok (.iload 5, 2) := db_21 (bt_of (i := 29) lb_18 rfl rfl (by decide)) (bt_of (i := 30) lb_18 rfl rfl (by decide))
theorem dL_law_1183 : decode cL_law 1183 = .ok (.ifCond .ne 15, 3) := db_154 (bt_of (i := 31) lb_18 rfl rfl (by decide)) (bt_of (i := 32) lb_18 rfl rfl (by decide)) (bt_of (i := 33) lb_18 rfl rfl (by decide)) (by decide +kernel)
theorem dL_law_1186 : decode cL_law 1186 = .ok (.aload_n 3, 1) := db_45 (bt_of (i := 34) lb_18 rfl rfl (by decide))
theorem dL_law_1187 : decode cL_law 1187 = .ok (.iconst 0, 1) := db_3 (bt_of (i := 35) lb_18 rfl rfl (by decide))
theorem dL_law_1188 : decode cL_law 1188 = .ok (.laload, 1) := db_47 (bt_of (i := 36) lb_18 rfl rfl (by decide))
theorem dL_law_1189 : decode cL_law 1189 = .ok (.iload 6, 2) := db_21 (bt_of (i := 37) lb_18 rfl rfl (by decide)) (bt_of (i := 38) lb_18 rfl rfl (by decide))
theorem dL_law_1191 : decode cL_law 1191 = .ok (.i2l, 1) := db_133 (bt_of (i := 39) lb_18 rfl rfl (by decide))
theorem dL_law_1192 : decode cL_law 1192 = .ok (.lcmp, 1) := db_148 (bt_of (i := 40) lb_18 rfl rfl (by decide))
theorem dL_law_1193 : decode cL_law 1193 = .ok (.ifCond .eq 5, 3) := db_153 (bt_of (i := 41) lb_18 rfl rfl (by decide)) (bt_of (i := 42) lb_18 rfl rfl (by decide)) (bt_of (i := 43) lb_18 rfl rfl (by decide)) (by decide +kernel)
theorem dL_law_1196 : decode cL_law 1196 = .ok (.iconst 0, 1) := db_3 (bt_of (i := 44) lb_18 rfl rfl (by decide))
theorem dL_law_1197 : decode cL_law 1197 = .ok (.ireturn, 1) := db_172 (bt_of (i := 45) lb_18 rfl rfl (by decide))
theorem dL_law_1198 : decode cL_law 1198 = .ok (.goto 2349, 3) := db_167 (bt_of (i := 46) lb_18 rfl rfl (by decide)) (bt_of (i := 47) lb_18 rfl rfl (by decide)) (bt_of (i := 48) lb_18 rfl rfl (by decide)) (by decide +kernel)
theorem dL_law_1201 : decode cL_law 1201 = .ok (.aload_n 1, 1) := db_43 (bt_of (i := 49) lb_18 rfl rfl (by decide))
theorem dL_law_1202 : decode cL_law 1202 = .ok (.aload_n 0, 1) := db_42 (bt_of (i := 50) lb_18 rfl rfl (by decide))
theorem dL_law_1203 : decode cL_law 1203 = .ok (.iload 4, 2) := db_21 (bt_of (i := 51) lb_18 rfl rfl (by decide)) (bt_of (i := 52) lb_18 rfl rfl (by decide))
theorem dL_law_1205 : decode cL_law 1205 = .ok (.iconst 1, 1) := db_4 (bt_of (i := 53) lb_18 rfl rfl (by decide))
theorem dL_law_1206 : decode cL_law 1206 = .ok (.iadd, 1) := db_96 (bt_of (i := 54) lb_18 rfl rfl (by decide))
theorem dL_law_1207 : decode cL_law 1207 = .ok (.iaload, 1) := db_46 (bt_of (i := 55) lb_18 rfl rfl (by decide))
theorem dL_law_1208 : decode cL_law 1208 = .ok (.aload_n 0, 1) := db_42 (bt_of (i := 56) lb_18 rfl rfl (by decide))
theorem dL_law_1209 : decode cL_law 1209 = .ok (.iload 4, 2) := db_21 (bt_of (i := 57) lb_18 rfl rfl (by decide)) (bt_of (i := 58) lb_18 rfl rfl (by decide))
theorem dL_law_1211 : decode cL_law 1211 = .ok (.iconst 2, 1) := db_5 (bt_of (i := 59) lb_18 rfl rfl (by decide))
theorem dL_law_1212 : decode cL_law 1212 = .ok (.iadd, 1) := db_96 (bt_of (i := 60) lb_18 rfl rfl (by decide))
theorem dL_law_1213 : decode cL_law 1213 = .ok (.iaload, 1) := db_46 (bt_of (i := 61) lb_18 rfl rfl (by decide))
theorem dL_law_1214 : decode cL_law 1214 = .ok (.aload_n 0, 1) := db_42 (bt_of (i := 62) lb_18 rfl rfl (by decide))
theorem dL_law_1215 : decode cL_law 1215 = .ok (.iload 4, 2) := db_21 (bt_of (i := 63) lb_18 rfl rfl (by decide)) (bt_of (i := 0) lb_19 rfl rfl (by decide))
theorem dL_law_1217 : decode cL_law 1217 = .ok (.iconst 3, 1) := db_6 (bt_of (i := 1) lb_19 rfl rfl (by decide))
theorem dL_law_1218 : decode cL_law 1218 = .ok (.iadd, 1) := db_96 (bt_of (i := 2) lb_19 rfl rfl (by decide))
theorem dL_law_1219 : decode cL_law 1219 = .ok (.iaload, 1) := db_46 (bt_of (i := 3) lb_19 rfl rfl (by decide))
theorem dL_law_1220 : decode cL_law 1220 = .ok (.aload_n 3, 1) := db_45 (bt_of (i := 4) lb_19 rfl rfl (by decide))
theorem dL_law_1221 : decode cL_law 1221 = .ok (.invokestatic 229, 3) := db_184 (bt_of (i := 5) lb_19 rfl rfl (by decide)) (bt_of (i := 6) lb_19 rfl rfl (by decide)) (bt_of (i := 7) lb_19 rfl rfl (by decide))
theorem dL_law_1224 : decode cL_law 1224 = .ok (.istore 5, 2) := db_54 (bt_of (i := 8) lb_19 rfl rfl (by decide)) (bt_of (i := 9) lb_19 rfl rfl (by decide))
theorem dL_law_1226 : decode cL_law 1226 = .ok (.aload_n 2, 1) := db_44 (bt_of (i := 10) lb_19 rfl rfl (by decide))
theorem dL_law_1227 : decode cL_law 1227 = .ok (.aload_n 0, 1) := db_42 (bt_of (i := 11) lb_19 rfl rfl (by decide))
theorem dL_law_1228 : decode cL_law 1228 = .ok (.iload 4, 2) := db_21 (bt_of (i := 12) lb_19 rfl rfl (by decide)) (bt_of (i := 13) lb_19 rfl rfl (by decide))
theorem dL_law_1230 : decode cL_law 1230 = .ok (.iconst 1, 1) := db_4 (bt_of (i := 14) lb_19 rfl rfl (by decide))
theorem dL_law_1231 : decode cL_law 1231 = .ok (.iadd, 1) := db_96 (bt_of (i := 15) lb_19 rfl rfl (by decide))
theorem dL_law_1232 : decode cL_law 1232 = .ok (.iaload, 1) := db_46 (bt_of (i := 16) lb_19 rfl rfl (by decide))
theorem dL_law_1233 : decode cL_law 1233 = .ok (.aload_n 0, 1) := db_42 (bt_of (i := 17) lb_19 rfl rfl (by decide))
theorem dL_law_1234 : decode cL_law 1234 = .ok (.iload 4, 2) := db_21 (bt_of (i := 18) lb_19 rfl rfl (by decide)) (bt_of (i := 19) lb_19 rfl rfl (by decide))
theorem dL_law_1236 : decode cL_law 1236 = .ok (.iconst 2, 1) := db_5 (bt_of (i := 20) lb_19 rfl rfl (by decide))
theorem dL_law_1237 : decode cL_law 1237 = .ok (.iadd, 1) := db_96 (bt_of (i := 21) lb_19 rfl rfl (by decide))
theorem dL_law_1238 : decode cL_law 1238 = .ok (.iaload, 1) := db_46 (bt_of (i := 22) lb_19 rfl rfl (by decide))
theorem dL_law_1239 : decode cL_law 1239 = .ok (.aload_n 0, 1) := db_42 (bt_of (i := 23) lb_19 rfl rfl (by decide))
theorem dL_law_1240 : decode cL_law 1240 = .ok (.iload 4, 2) := db_21 (bt_of (i := 24) lb_19 rfl rfl (by decide)) (bt_of (i := 25) lb_19 rfl rfl (by decide))
theorem dL_law_1242 : decode cL_law 1242 = .ok (.iconst 3, 1) := db_6 (bt_of (i := 26) lb_19 rfl rfl (by decide))
theorem dL_law_1243 : decode cL_law 1243 = .ok (.iadd, 1) := db_96 (bt_of (i := 27) lb_19 rfl rfl (by decide))
theorem dL_law_1244 : decode cL_law 1244 = .ok (.iaload, 1) := db_46 (bt_of (i := 28) lb_19 rfl rfl (by decide))
theorem dL_law_1245 : decode cL_law 1245 = .ok (.invokevirtual 231, 3) := db_182 (bt_of (i := 29) lb_19 rfl rfl (by decide)) (bt_of (i := 30) lb_19 rfl rfl (by decide)) (bt_of (i := 31) lb_19 rfl rfl (by decide))
theorem dL_law_1248 : decode cL_law 1248 = .ok (.istore 6, 2) := db_54 (bt_of (i := 32) lb_19 rfl rfl (by decide)) (bt_of (i := 33) lb_19 rfl rfl (by decide))
theorem dL_law_1250 : decode cL_law 1250 = .ok (.aload_n 2, 1) := db_44 (bt_of (i := 34) lb_19 rfl rfl (by decide))
theorem dL_law_1251 : decode cL_law 1251 = .ok (.invokevirtual 179, 3) := db_182 (bt_of (i := 35) lb_19 rfl rfl (by decide)) (bt_of (i := 36) lb_19 rfl rfl (by decide)) (bt_of (i := 37) lb_19 rfl rfl (by decide))
theorem dL_law_1254 : decode cL_law 1254 = .ok (.iload 5, 2) := db_21 (bt_of (i := 38) lb_19 rfl rfl (by decide)) (bt_of (i := 39) lb_19 rfl rfl (by decide))
theorem dL_law_1256 : decode cL_law 1256 = .ok (.if_icmp .eq 5, 3) := db_159 (bt_of (i := 40) lb_19 rfl rfl (by decide)) (bt_of (i := 41) lb_19 rfl rfl (by decide)) (bt_of (i := 42) lb_19 rfl rfl (by decide)) (by decide +kernel)
theorem dL_law_1259 : decode cL_law 1259 = .ok (.iconst 0, 1) := db_3 (bt_of (i := 43) lb_19 rfl rfl (by decide))
theorem dL_law_1260 : decode cL_law 1260 = .ok (.ireturn, 1) := db_172 (bt_of (i := 44) lb_19 rfl rfl (by decide))
theorem dL_law_1261 : decode cL_law 1261 = .ok (.iload 5, 2) := db_21 (bt_of (i := 45) lb_19 rfl rfl (by decide)) (bt_of (i := 46) lb_19 rfl rfl (by decide))
theorem dL_law_1263 : decode cL_law 1263 = .ok (.ifCond .ne 15, 3) := db_154 (bt_of (i := 47) lb_19 rfl rfl (by decide)) (bt_of (i := 48) lb_19 rfl rfl (by decide)) (bt_of (i := 49) lb_19 rfl rfl (by decide)) (by decide +kernel)
theorem dL_law_1266 : decode cL_law 1266 = .ok (.aload_n 3, 1) := db_45 (bt_of (i := 50) lb_19 rfl rfl (by decide))
theorem dL_law_1267 : decode cL_law 1267 = .ok (.iconst 0, 1) := db_3 (bt_of (i := 51) lb_19 rfl rfl (by decide))
theorem dL_law_1268 : decode cL_law 1268 = .ok (.laload, 1) := db_47 (bt_of (i := 52) lb_19 rfl rfl (by decide))
theorem dL_law_1269 : decode cL_law 1269 = .ok (.iload 6, 2) := db_21 (bt_of (i := 53) lb_19 rfl rfl (by decide)) (bt_of (i := 54) lb_19 rfl rfl (by decide))
theorem dL_law_1271 : decode cL_law 1271 = .ok (.i2l, 1) := db_133 (bt_of (i := 55) lb_19 rfl rfl (by decide))
theorem dL_law_1272 : decode cL_law 1272 = .ok (.lcmp, 1) := db_148 (bt_of (i := 56) lb_19 rfl rfl (by decide))
theorem dL_law_1273 : decode cL_law 1273 = .ok (.ifCond .eq 5, 3) := db_153 (bt_of (i := 57) lb_19 rfl rfl (by decide)) (bt_of (i := 58) lb_19 rfl rfl (by decide)) (bt_of (i := 59) lb_19 rfl rfl (by decide)) (by decide +kernel)
theorem dL_law_1276 : decode cL_law 1276 = .ok (.iconst 0, 1) := db_3 (bt_of (i := 60) lb_19 rfl rfl (by decide))
theorem dL_law_1277 : decode cL_law 1277 = .ok (.ireturn, 1) := db_172 (bt_of (i := 61) lb_19 rfl rfl (by decide))
theorem dL_law_1278 : decode cL_law 1278 = .ok (.goto 2269, 3) := db_167 (bt_of (i := 62) lb_19 rfl rfl (by decide)) (bt_of (i := 63) lb_19 rfl rfl (by decide)) (bt_of (i := 0) lb_20 rfl rfl (by decide)) (by decide +kernel)
theorem dL_law_1281 : decode cL_law 1281 = .ok (.aload_n 1, 1) := db_43 (bt_of (i := 1) lb_20 rfl rfl (by decide))
theorem dL_law_1282 : decode cL_law 1282 = .ok (.aload_n 0, 1) := db_42 (bt_of (i := 2) lb_20 rfl rfl (by decide))
theorem dL_law_1283 : decode cL_law 1283 = .ok (.iload 4, 2) := db_21 (bt_of (i := 3) lb_20 rfl rfl (by decide)) (bt_of (i := 4) lb_20 rfl rfl (by decide))
theorem dL_law_1285 : decode cL_law 1285 = .ok (.iconst 1, 1) := db_4 (bt_of (i := 5) lb_20 rfl rfl (by decide))
theorem dL_law_1286 : decode cL_law 1286 = .ok (.iadd, 1) := db_96 (bt_of (i := 6) lb_20 rfl rfl (by decide))
theorem dL_law_1287 : decode cL_law 1287 = .ok (.iaload, 1) := db_46 (bt_of (i := 7) lb_20 rfl rfl (by decide))
theorem dL_law_1288 : decode cL_law 1288 = .ok (.aload_n 0, 1) := db_42 (bt_of (i := 8) lb_20 rfl rfl (by decide))
theorem dL_law_1289 : decode cL_law 1289 = .ok (.iload 4, 2) := db_21 (bt_of (i := 9) lb_20 rfl rfl (by decide)) (bt_of (i := 10) lb_20 rfl rfl (by decide))
theorem dL_law_1291 : decode cL_law 1291 = .ok (.iconst 2, 1) := db_5 (bt_of (i := 11) lb_20 rfl rfl (by decide))
theorem dL_law_1292 : decode cL_law 1292 = .ok (.iadd, 1) := db_96 (bt_of (i := 12) lb_20 rfl rfl (by decide))
theorem dL_law_1293 : decode cL_law 1293 = .ok (.iaload, 1) := db_46 (bt_of (i := 13) lb_20 rfl rfl (by decide))
theorem dL_law_1294 : decode cL_law 1294 = .ok (.aload_n 3, 1) := db_45 (bt_of (i := 14) lb_20 rfl rfl (by decide))
theorem dL_law_1295 : decode cL_law 1295 = .ok (.invokestatic 232, 3) := db_184 (bt_of (i := 15) lb_20 rfl rfl (by decide)) (bt_of (i := 16) lb_20 rfl rfl (by decide)) (bt_of (i := 17) lb_20 rfl rfl (by decide))
theorem dL_law_1298 : decode cL_law 1298 = .ok (.istore 5, 2) := db_54 (bt_of (i := 18) lb_20 rfl rfl (by decide)) (bt_of (i := 19) lb_20 rfl rfl (by decide))
theorem dL_law_1300 : decode cL_law 1300 = .ok (.aload_n 2, 1) := db_44 (bt_of (i := 20) lb_20 rfl rfl (by decide))
theorem dL_law_1301 : decode cL_law 1301 = .ok (.aload_n 0, 1) := db_42 (bt_of (i := 21) lb_20 rfl rfl (by decide))
theorem dL_law_1302 : decode cL_law 1302 = .ok (.iload 4, 2) := db_21 (bt_of (i := 22) lb_20 rfl rfl (by decide)) (bt_of (i := 23) lb_20 rfl rfl (by decide))
theorem dL_law_1304 : decode cL_law 1304 = .ok (.iconst 1, 1) := db_4 (bt_of (i := 24) lb_20 rfl rfl (by decide))
theorem dL_law_1305 : decode cL_law 1305 = .ok (.iadd, 1) := db_96 (bt_of (i := 25) lb_20 rfl rfl (by decide))
theorem dL_law_1306 : decode cL_law 1306 = .ok (.iaload, 1) := db_46 (bt_of (i := 26) lb_20 rfl rfl (by decide))
theorem dL_law_1307 : decode cL_law 1307 = .ok (.aload_n 0, 1) := db_42 (bt_of (i := 27) lb_20 rfl rfl (by decide))
theorem dL_law_1308 : decode cL_law 1308 = .ok (.iload 4, 2) := db_21 (bt_of (i := 28) lb_20 rfl rfl (by decide)) (bt_of (i := 29) lb_20 rfl rfl (by decide))
theorem dL_law_1310 : decode cL_law 1310 = .ok (.iconst 2, 1) := db_5 (bt_of (i := 30) lb_20 rfl rfl (by decide))
theorem dL_law_1311 : decode cL_law 1311 = .ok (.iadd, 1) := db_96 (bt_of (i := 31) lb_20 rfl rfl (by decide))
theorem dL_law_1312 : decode cL_law 1312 = .ok (.iaload, 1) := db_46 (bt_of (i := 32) lb_20 rfl rfl (by decide))
theorem dL_law_1313 : decode cL_law 1313 = .ok (.invokevirtual 235, 3) := db_182 (bt_of (i := 33) lb_20 rfl rfl (by decide)) (bt_of (i := 34) lb_20 rfl rfl (by decide)) (bt_of (i := 35) lb_20 rfl rfl (by decide))
theorem dL_law_1316 : decode cL_law 1316 = .ok (.istore 6, 2) := db_54 (bt_of (i := 36) lb_20 rfl rfl (by decide)) (bt_of (i := 37) lb_20 rfl rfl (by decide))
theorem dL_law_1318 : decode cL_law 1318 = .ok (.aload_n 2, 1) := db_44 (bt_of (i := 38) lb_20 rfl rfl (by decide))
theorem dL_law_1319 : decode cL_law 1319 = .ok (.invokevirtual 179, 3) := db_182 (bt_of (i := 39) lb_20 rfl rfl (by decide)) (bt_of (i := 40) lb_20 rfl rfl (by decide)) (bt_of (i := 41) lb_20 rfl rfl (by decide))
theorem dL_law_1322 : decode cL_law 1322 = .ok (.iload 5, 2) := db_21 (bt_of (i := 42) lb_20 rfl rfl (by decide)) (bt_of (i := 43) lb_20 rfl rfl (by decide))
theorem dL_law_1324 : decode cL_law 1324 = .ok (.if_icmp .eq 5, 3) := db_159 (bt_of (i := 44) lb_20 rfl rfl (by decide)) (bt_of (i := 45) lb_20 rfl rfl (by decide)) (bt_of (i := 46) lb_20 rfl rfl (by decide)) (by decide +kernel)
theorem dL_law_1327 : decode cL_law 1327 = .ok (.iconst 0, 1) := db_3 (bt_of (i := 47) lb_20 rfl rfl (by decide))
theorem dL_law_1328 : decode cL_law 1328 = .ok (.ireturn, 1) := db_172 (bt_of (i := 48) lb_20 rfl rfl (by decide))
theorem dL_law_1329 : decode cL_law 1329 = .ok (.iload 5, 2) := db_21 (bt_of (i := 49) lb_20 rfl rfl (by decide)) (bt_of (i := 50) lb_20 rfl rfl (by decide))
theorem dL_law_1331 : decode cL_law 1331 = .ok (.ifCond .ne 15, 3) := db_154 (bt_of (i := 51) lb_20 rfl rfl (by decide)) (bt_of (i := 52) lb_20 rfl rfl (by decide)) (bt_of (i := 53) lb_20 rfl rfl (by decide)) (by decide +kernel)
theorem dL_law_1334 : decode cL_law 1334 = .ok (.aload_n 3, 1) := db_45 (bt_of (i := 54) lb_20 rfl rfl (by decide))
theorem dL_law_1335 : decode cL_law 1335 = .ok (.iconst 0, 1) := db_3 (bt_of (i := 55) lb_20 rfl rfl (by decide))
theorem dL_law_1336 : decode cL_law 1336 = .ok (.laload, 1) := db_47 (bt_of (i := 56) lb_20 rfl rfl (by decide))
theorem dL_law_1337 : decode cL_law 1337 = .ok (.iload 6, 2) := db_21 (bt_of (i := 57) lb_20 rfl rfl (by decide)) (bt_of (i := 58) lb_20 rfl rfl (by decide))
theorem dL_law_1339 : decode cL_law 1339 = .ok (.i2l, 1) := db_133 (bt_of (i := 59) lb_20 rfl rfl (by decide))
theorem dL_law_1340 : decode cL_law 1340 = .ok (.lcmp, 1) := db_148 (bt_of (i := 60) lb_20 rfl rfl (by decide))
theorem dL_law_1341 : decode cL_law 1341 = .ok (.ifCond .eq 5, 3) := db_153 (bt_of (i := 61) lb_20 rfl rfl (by decide)) (bt_of (i := 62) lb_20 rfl rfl (by decide)) (bt_of (i := 63) lb_20 rfl rfl (by decide)) (by decide +kernel)
theorem dL_law_1344 : decode cL_law 1344 = .ok (.iconst 0, 1) := db_3 (bt_of (i := 0) lb_21 rfl rfl (by decide))
theorem dL_law_1345 : decode cL_law 1345 = .ok (.ireturn, 1) := db_172 (bt_of (i := 1) lb_21 rfl rfl (by decide))
theorem dL_law_1346 : decode cL_law 1346 = .ok (.goto 2201, 3) := db_167 (bt_of (i := 2) lb_21 rfl rfl (by decide)) (bt_of (i := 3) lb_21 rfl rfl (by decide)) (bt_of (i := 4) lb_21 rfl rfl (by decide)) (by decide +kernel)
theorem dL_law_1349 : decode cL_law 1349 = .ok (.aload_n 1, 1) := db_43 (bt_of (i := 5) lb_21 rfl rfl (by decide))
theorem dL_law_1350 : decode cL_law 1350 = .ok (.aload_n 0, 1) := db_42 (bt_of (i := 6) lb_21 rfl rfl (by decide))
theorem dL_law_1351 : decode cL_law 1351 = .ok (.iload 4, 2) := db_21 (bt_of (i := 7) lb_21 rfl rfl (by decide)) (bt_of (i := 8) lb_21 rfl rfl (by decide))
theorem dL_law_1353 : decode cL_law 1353 = .ok (.iconst 1, 1) := db_4 (bt_of (i := 9) lb_21 rfl rfl (by decide))
theorem dL_law_1354 : decode cL_law 1354 = .ok (.iadd, 1) := db_96 (bt_of (i := 10) lb_21 rfl rfl (by decide))
theorem dL_law_1355 : decode cL_law 1355 = .ok (.iaload, 1) := db_46 (bt_of (i := 11) lb_21 rfl rfl (by decide))
theorem dL_law_1356 : decode cL_law 1356 = .ok (.aload_n 0, 1) := db_42 (bt_of (i := 12) lb_21 rfl rfl (by decide))
theorem dL_law_1357 : decode cL_law 1357 = .ok (.iload 4, 2) := db_21 (bt_of (i := 13) lb_21 rfl rfl (by decide)) (bt_of (i := 14) lb_21 rfl rfl (by decide))
theorem dL_law_1359 : decode cL_law 1359 = .ok (.iconst 2, 1) := db_5 (bt_of (i := 15) lb_21 rfl rfl (by decide))
theorem dL_law_1360 : decode cL_law 1360 = .ok (.iadd, 1) := db_96 (bt_of (i := 16) lb_21 rfl rfl (by decide))
theorem dL_law_1361 : decode cL_law 1361 = .ok (.iaload, 1) := db_46 (bt_of (i := 17) lb_21 rfl rfl (by decide))
theorem dL_law_1362 : decode cL_law 1362 = .ok (.aload_n 3, 1) := db_45 (bt_of (i := 18) lb_21 rfl rfl (by decide))
theorem dL_law_1363 : decode cL_law 1363 = .ok (.invokestatic 236, 3) := db_184 (bt_of (i := 19) lb_21 rfl rfl (by decide)) (bt_of (i := 20) lb_21 rfl rfl (by decide)) (bt_of (i := 21) lb_21 rfl rfl (by decide))
theorem dL_law_1366 : decode cL_law 1366 = .ok (.istore 5, 2) := db_54 (bt_of (i := 22) lb_21 rfl rfl (by decide)) (bt_of (i := 23) lb_21 rfl rfl (by decide))
theorem dL_law_1368 : decode cL_law 1368 = .ok (.aload_n 2, 1) := db_44 (bt_of (i := 24) lb_21 rfl rfl (by decide))
theorem dL_law_1369 : decode cL_law 1369 = .ok (.aload_n 0, 1) := db_42 (bt_of (i := 25) lb_21 rfl rfl (by decide))
theorem dL_law_1370 : decode cL_law 1370 = .ok (.iload 4, 2) := db_21 (bt_of (i := 26) lb_21 rfl rfl (by decide)) (bt_of (i := 27) lb_21 rfl rfl (by decide))
theorem dL_law_1372 : decode cL_law 1372 = .ok (.iconst 1, 1) := db_4 (bt_of (i := 28) lb_21 rfl rfl (by decide))
theorem dL_law_1373 : decode cL_law 1373 = .ok (.iadd, 1) := db_96 (bt_of (i := 29) lb_21 rfl rfl (by decide))
theorem dL_law_1374 : decode cL_law 1374 = .ok (.iaload, 1) := db_46 (bt_of (i := 30) lb_21 rfl rfl (by decide))
theorem dL_law_1375 : decode cL_law 1375 = .ok (.aload_n 0, 1) := db_42 (bt_of (i := 31) lb_21 rfl rfl (by decide))
theorem dL_law_1376 : decode cL_law 1376 = .ok (.iload 4, 2) := db_21 (bt_of (i := 32) lb_21 rfl rfl (by decide)) (bt_of (i := 33) lb_21 rfl rfl (by decide))
theorem dL_law_1378 : decode cL_law 1378 = .ok (.iconst 2, 1) := db_5 (bt_of (i := 34) lb_21 rfl rfl (by decide))
theorem dL_law_1379 : decode cL_law 1379 = .ok (.iadd, 1) := db_96 (bt_of (i := 35) lb_21 rfl rfl (by decide))
theorem dL_law_1380 : decode cL_law 1380 = .ok (.iaload, 1) := db_46 (bt_of (i := 36) lb_21 rfl rfl (by decide))
theorem dL_law_1381 : decode cL_law 1381 = .ok (.invokevirtual 238, 3) := db_182 (bt_of (i := 37) lb_21 rfl rfl (by decide)) (bt_of (i := 38) lb_21 rfl rfl (by decide)) (bt_of (i := 39) lb_21 rfl rfl (by decide))
theorem dL_law_1384 : decode cL_law 1384 = .ok (.istore 6, 2) := db_54 (bt_of (i := 40) lb_21 rfl rfl (by decide)) (bt_of (i := 41) lb_21 rfl rfl (by decide))
theorem dL_law_1386 : decode cL_law 1386 = .ok (.aload_n 2, 1) := db_44 (bt_of (i := 42) lb_21 rfl rfl (by decide))
theorem dL_law_1387 : decode cL_law 1387 = .ok (.invokevirtual 179, 3) := db_182 (bt_of (i := 43) lb_21 rfl rfl (by decide)) (bt_of (i := 44) lb_21 rfl rfl (by decide)) (bt_of (i := 45) lb_21 rfl rfl (by decide))
theorem dL_law_1390 : decode cL_law 1390 = .ok (.iload 5, 2) := db_21 (bt_of (i := 46) lb_21 rfl rfl (by decide)) (bt_of (i := 47) lb_21 rfl rfl (by decide))
theorem dL_law_1392 : decode cL_law 1392 = .ok (.if_icmp .eq 5, 3) := db_159 (bt_of (i := 48) lb_21 rfl rfl (by decide)) (bt_of (i := 49) lb_21 rfl rfl (by decide)) (bt_of (i := 50) lb_21 rfl rfl (by decide)) (by decide +kernel)
theorem dL_law_1395 : decode cL_law 1395 = .ok (.iconst 0, 1) := db_3 (bt_of (i := 51) lb_21 rfl rfl (by decide))
theorem dL_law_1396 : decode cL_law 1396 = .ok (.ireturn, 1) := db_172 (bt_of (i := 52) lb_21 rfl rfl (by decide))
theorem dL_law_1397 : decode cL_law 1397 = .ok (.iload 5, 2) := db_21 (bt_of (i := 53) lb_21 rfl rfl (by decide)) (bt_of (i := 54) lb_21 rfl rfl (by decide))
theorem dL_law_1399 : decode cL_law 1399 = .ok (.ifCond .ne 22, 3) := db_154 (bt_of (i := 55) lb_21 rfl rfl (by decide)) (bt_of (i := 56) lb_21 rfl rfl (by decide)) (bt_of (i := 57) lb_21 rfl rfl (by decide)) (by decide +kernel)
theorem dL_law_1402 : decode cL_law 1402 = .ok (.aload_n 3, 1) := db_45 (bt_of (i := 58) lb_21 rfl rfl (by decide))
theorem dL_law_1403 : decode cL_law 1403 = .ok (.iconst 0, 1) := db_3 (bt_of (i := 59) lb_21 rfl rfl (by decide))
theorem dL_law_1404 : decode cL_law 1404 = .ok (.laload, 1) := db_47 (bt_of (i := 60) lb_21 rfl rfl (by decide))
theorem dL_law_1405 : decode cL_law 1405 = .ok (.iload 6, 2) := db_21 (bt_of (i := 61) lb_21 rfl rfl (by decide)) (bt_of (i := 62) lb_21 rfl rfl (by decide))
theorem dL_law_1407 : decode cL_law 1407 = .ok (.ifCond .eq 7, 3) := db_153 (bt_of (i := 63) lb_21 rfl rfl (by decide)) (bt_of (i := 0) lb_22 rfl rfl (by decide)) (bt_of (i := 1) lb_22 rfl rfl (by decide)) (by decide +kernel)
theorem dL_law_1410 : decode cL_law 1410 = .ok (.lconst 1, 1) := db_10 (bt_of (i := 2) lb_22 rfl rfl (by decide))
theorem dL_law_1411 : decode cL_law 1411 = .ok (.goto 4, 3) := db_167 (bt_of (i := 3) lb_22 rfl rfl (by decide)) (bt_of (i := 4) lb_22 rfl rfl (by decide)) (bt_of (i := 5) lb_22 rfl rfl (by decide)) (by decide +kernel)
theorem dL_law_1414 : decode cL_law 1414 = .ok (.lconst 0, 1) := db_9 (bt_of (i := 6) lb_22 rfl rfl (by decide))
theorem dL_law_1415 : decode cL_law 1415 = .ok (.lcmp, 1) := db_148 (bt_of (i := 7) lb_22 rfl rfl (by decide))
theorem dL_law_1416 : decode cL_law 1416 = .ok (.ifCond .eq 5, 3) := db_153 (bt_of (i := 8) lb_22 rfl rfl (by decide)) (bt_of (i := 9) lb_22 rfl rfl (by decide)) (bt_of (i := 10) lb_22 rfl rfl (by decide)) (by decide +kernel)
theorem dL_law_1419 : decode cL_law 1419 = .ok (.iconst 0, 1) := db_3 (bt_of (i := 11) lb_22 rfl rfl (by decide))
theorem dL_law_1420 : decode cL_law 1420 = .ok (.ireturn, 1) := db_172 (bt_of (i := 12) lb_22 rfl rfl (by decide))
theorem dL_law_1421 : decode cL_law 1421 = .ok (.goto 2126, 3) := db_167 (bt_of (i := 13) lb_22 rfl rfl (by decide)) (bt_of (i := 14) lb_22 rfl rfl (by decide)) (bt_of (i := 15) lb_22 rfl rfl (by decide)) (by decide +kernel)
theorem dL_law_1424 : decode cL_law 1424 = .ok (.aload_n 1, 1) := db_43 (bt_of (i := 16) lb_22 rfl rfl (by decide))
theorem dL_law_1425 : decode cL_law 1425 = .ok (.aload_n 0, 1) := db_42 (bt_of (i := 17) lb_22 rfl rfl (by decide))
theorem dL_law_1426 : decode cL_law 1426 = .ok (.iload 4, 2) := db_21 (bt_of (i := 18) lb_22 rfl rfl (by decide)) (bt_of (i := 19) lb_22 rfl rfl (by decide))
theorem dL_law_1428 : decode cL_law 1428 = .ok (.iconst 1, 1) := db_4 (bt_of (i := 20) lb_22 rfl rfl (by decide))
theorem dL_law_1429 : decode cL_law 1429 = .ok (.iadd, 1) := db_96 (bt_of (i := 21) lb_22 rfl rfl (by decide))
theorem dL_law_1430 : decode cL_law 1430 = .ok (.iaload, 1) := db_46 (bt_of (i := 22) lb_22 rfl rfl (by decide))
theorem dL_law_1431 : decode cL_law 1431 = .ok (.aload_n 0, 1) := db_42 (bt_of (i := 23) lb_22 rfl rfl (by decide))
theorem dL_law_1432 : decode cL_law 1432 = .ok (.iload 4, 2) := db_21 (bt_of (i := 24) lb_22 rfl rfl (by decide)) (bt_of (i := 25) lb_22 rfl rfl (by decide))
theorem dL_law_1434 : decode cL_law 1434 = .ok (.iconst 2, 1) := db_5 (bt_of (i := 26) lb_22 rfl rfl (by decide))
theorem dL_law_1435 : decode cL_law 1435 = .ok (.iadd, 1) := db_96 (bt_of (i := 27) lb_22 rfl rfl (by decide))
theorem dL_law_1436 : decode cL_law 1436 = .ok (.iaload, 1) := db_46 (bt_of (i := 28) lb_22 rfl rfl (by decide))
theorem dL_law_1437 : decode cL_law 1437 = .ok (.aload_n 0, 1) := db_42 (bt_of (i := 29) lb_22 rfl rfl (by decide))
theorem dL_law_1438 : decode cL_law 1438 = .ok (.iload 4, 2) := db_21 (bt_of (i := 30) lb_22 rfl rfl (by decide)) (bt_of (i := 31) lb_22 rfl rfl (by decide))
theorem dL_law_1440 : decode cL_law 1440 = .ok (.iconst 3, 1) := db_6 (bt_of (i := 32) lb_22 rfl rfl (by decide))
theorem dL_law_1441 : decode cL_law 1441 = .ok (.iadd, 1) := db_96 (bt_of (i := 33) lb_22 rfl rfl (by decide))
theorem dL_law_1442 : decode cL_law 1442 = .ok (.iaload, 1) := db_46 (bt_of (i := 34) lb_22 rfl rfl (by decide))
theorem dL_law_1443 : decode cL_law 1443 = .ok (.i2c, 1) := db_146 (bt_of (i := 35) lb_22 rfl rfl (by decide))
theorem dL_law_1444 : decode cL_law 1444 = .ok (.aload_n 0, 1) := db_42 (bt_of (i := 36) lb_22 rfl rfl (by decide))
theorem dL_law_1445 : decode cL_law 1445 = .ok (.iload 4, 2) := db_21 (bt_of (i := 37) lb_22 rfl rfl (by decide)) (bt_of (i := 38) lb_22 rfl rfl (by decide))
theorem dL_law_1447 : decode cL_law 1447 = .ok (.iconst 4, 1) := db_7 (bt_of (i := 39) lb_22 rfl rfl (by decide))
theorem dL_law_1448 : decode cL_law 1448 = .ok (.iadd, 1) := db_96 (bt_of (i := 40) lb_22 rfl rfl (by decide))
theorem dL_law_1449 : decode cL_law 1449 = .ok (.iaload, 1) := db_46 (bt_of (i := 41) lb_22 rfl rfl (by decide))
theorem dL_law_1450 : decode cL_law 1450 = .ok (.aload_n 3, 1) := db_45 (bt_of (i := 42) lb_22 rfl rfl (by decide))
theorem dL_law_1451 : decode cL_law 1451 = .ok (.invokestatic 239, 3) := db_184 (bt_of (i := 43) lb_22 rfl rfl (by decide)) (bt_of (i := 44) lb_22 rfl rfl (by decide)) (bt_of (i := 45) lb_22 rfl rfl (by decide))
theorem dL_law_1454 : decode cL_law 1454 = .ok (.istore 5, 2) := db_54 (bt_of (i := 46) lb_22 rfl rfl (by decide)) (bt_of (i := 47) lb_22 rfl rfl (by decide))
theorem dL_law_1456 : decode cL_law 1456 = .ok (.aload_n 2, 1) := db_44 (bt_of (i := 48) lb_22 rfl rfl (by decide))
theorem dL_law_1457 : decode cL_law 1457 = .ok (.aload_n 0, 1) := db_42 (bt_of (i := 49) lb_22 rfl rfl (by decide))
theorem dL_law_1458 : decode cL_law 1458 = .ok (.iload 4, 2) := db_21 (bt_of (i := 50) lb_22 rfl rfl (by decide)) (bt_of (i := 51) lb_22 rfl rfl (by decide))
theorem dL_law_1460 : decode cL_law 1460 = .ok (.iconst 1, 1) := db_4 (bt_of (i := 52) lb_22 rfl rfl (by decide))
theorem dL_law_1461 : decode cL_law 1461 = .ok (.iadd, 1) := db_96 (bt_of (i := 53) lb_22 rfl rfl (by decide))
theorem dL_law_1462 : decode cL_law 1462 = .ok (.iaload, 1) := db_46 (bt_of (i := 54) lb_22 rfl rfl (by decide))
theorem dL_law_1463 : decode cL_law 1463 = .ok (.aload_n 0, 1) := db_42 (bt_of (i := 55) lb_22 rfl rfl (by decide))
theorem dL_law_1464 : decode cL_law 1464 = .ok (.iload 4, 2) := db_21 (bt_of (i := 56) lb_22 rfl rfl (by decide)) (bt_of (i := 57) lb_22 rfl rfl (by decide))
theorem dL_law_1466 : decode cL_law 1466 = .ok (.iconst 2, 1) := db_5 (bt_of (i := 58) lb_22 rfl rfl (by decide))
theorem dL_law_1467 : decode cL_law 1467 = .ok (.iadd, 1) := db_96 (bt_of (i := 59) lb_22 rfl rfl (by decide))
theorem dL_law_1468 : decode cL_law 1468 = .ok (.iaload, 1) := db_46 (bt_of (i := 60) lb_22 rfl rfl (by decide))
theorem dL_law_1469 : decode cL_law 1469 = .ok (.aload_n 0, 1) := db_42 (bt_of (i := 61) lb_22 rfl rfl (by decide))
theorem dL_law_1470 : decode cL_law 1470 = .ok (.iload 4, 2) := db_21 (bt_of (i := 62) lb_22 rfl rfl (by decide)) (bt_of (i := 63) lb_22 rfl rfl (by decide))
theorem dL_law_1472 : decode cL_law 1472 = .ok (.iconst 3, 1) := db_6 (bt_of (i := 0) lb_23 rfl rfl (by decide))
theorem dL_law_1473 : decode cL_law 1473 = .ok (.iadd, 1) := db_96 (bt_of (i := 1) lb_23 rfl rfl (by decide))
theorem dL_law_1474 : decode cL_law 1474 = .ok (.iaload, 1) := db_46 (bt_of (i := 2) lb_23 rfl rfl (by decide))
theorem dL_law_1475 : decode cL_law 1475 = .ok (.i2c, 1) := db_146 (bt_of (i := 3) lb_23 rfl rfl (by decide))
theorem dL_law_1476 : decode cL_law 1476 = .ok (.aload_n 0, 1) := db_42 (bt_of (i := 4) lb_23 rfl rfl (by decide))
theorem dL_law_1477 : decode cL_law 1477 = .ok (.iload 4, 2) := db_21 (bt_of (i := 5) lb_23 rfl rfl (by decide)) (bt_of (i := 6) lb_23 rfl rfl (by decide))
theorem dL_law_1479 : decode cL_law 1479 = .ok (.iconst 4, 1) := db_7 (bt_of (i := 7) lb_23 rfl rfl (by decide))
theorem dL_law_1480 : decode cL_law 1480 = .ok (.iadd, 1) := db_96 (bt_of (i := 8) lb_23 rfl rfl (by decide))
theorem dL_law_1481 : decode cL_law 1481 = .ok (.iaload, 1) := db_46 (bt_of (i := 9) lb_23 rfl rfl (by decide))
theorem dL_law_1482 : decode cL_law 1482 = .ok (.invokevirtual 241, 3) := db_182 (bt_of (i := 10) lb_23 rfl rfl (by decide)) (bt_of (i := 11) lb_23 rfl rfl (by decide)) (bt_of (i := 12) lb_23 rfl rfl (by decide))
theorem dL_law_1485 : decode cL_law 1485 = .ok (.istore 6, 2) := db_54 (bt_of (i := 13) lb_23 rfl rfl (by decide)) (bt_of (i := 14) lb_23 rfl rfl (by decide))
theorem dL_law_1487 : decode cL_law 1487 = .ok (.aload_n 2, 1) := db_44 (bt_of (i := 15) lb_23 rfl rfl (by decide))
theorem dL_law_1488 : decode cL_law 1488 = .ok (.invokevirtual 179, 3) := db_182 (bt_of (i := 16) lb_23 rfl rfl (by decide)) (bt_of (i := 17) lb_23 rfl rfl (by decide)) (bt_of (i := 18) lb_23 rfl rfl (by decide))
theorem dL_law_1491 : decode cL_law 1491 = .ok (.iload 5, 2) := db_21 (bt_of (i := 19) lb_23 rfl rfl (by decide)) (bt_of (i := 20) lb_23 rfl rfl (by decide))
theorem dL_law_1493 : decode cL_law 1493 = .ok (.if_icmp .eq 5, 3) := db_159 (bt_of (i := 21) lb_23 rfl rfl (by decide)) (bt_of (i := 22) lb_23 rfl rfl (by decide)) (bt_of (i := 23) lb_23 rfl rfl (by decide)) (by decide +kernel)
theorem dL_law_1496 : decode cL_law 1496 = .ok (.iconst 0, 1) := db_3 (bt_of (i := 24) lb_23 rfl rfl (by decide))
theorem dL_law_1497 : decode cL_law 1497 = .ok (.ireturn, 1) := db_172 (bt_of (i := 25) lb_23 rfl rfl (by decide))
theorem dL_law_1498 : decode cL_law 1498 = .ok (.iload 5, 2) := db_21 (bt_of (i := 26) lb_23 rfl rfl (by decide)) (bt_of (i := 27) lb_23 rfl rfl (by decide))
theorem dL_law_1500 : decode cL_law 1500 = .ok (.ifCond .ne 15, 3) := db_154 (bt_of (i := 28) lb_23 rfl rfl (by decide)) (bt_of (i := 29) lb_23 rfl rfl (by decide)) (bt_of (i := 30) lb_23 rfl rfl (by decide)) (by decide +kernel)
theorem dL_law_1503 : decode cL_law 1503 = .ok (.aload_n 3, 1) := db_45 (bt_of (i := 31) lb_23 rfl rfl (by decide))
theorem dL_law_1504 : decode cL_law 1504 = .ok (.iconst 0, 1) := db_3 (bt_of (i := 32) lb_23 rfl rfl (by decide))
theorem dL_law_1505 : decode cL_law 1505 = .ok (.laload, 1) := db_47 (bt_of (i := 33) lb_23 rfl rfl (by decide))
theorem dL_law_1506 : decode cL_law 1506 = .ok (.iload 6, 2) := db_21 (bt_of (i := 34) lb_23 rfl rfl (by decide)) (bt_of (i := 35) lb_23 rfl rfl (by decide))
theorem dL_law_1508 : decode cL_law 1508 = .ok (.i2l, 1) := db_133 (bt_of (i := 36) lb_23 rfl rfl (by decide))
theorem dL_law_1509 : decode cL_law 1509 = .ok (.lcmp, 1) := db_148 (bt_of (i := 37) lb_23 rfl rfl (by decide))
theorem dL_law_1510 : decode cL_law 1510 = .ok (.ifCond .eq 5, 3) := db_153 (bt_of (i := 38) lb_23 rfl rfl (by decide)) (bt_of (i := 39) lb_23 rfl rfl (by decide)) (bt_of (i := 40) lb_23 rfl rfl (by decide)) (by decide +kernel)
theorem dL_law_1513 : decode cL_law 1513 = .ok (.iconst 0, 1) := db_3 (bt_of (i := 41) lb_23 rfl rfl (by decide))
theorem dL_law_1514 : decode cL_law 1514 = .ok (.ireturn, 1) := db_172 (bt_of (i := 42) lb_23 rfl rfl (by decide))
theorem dL_law_1515 : decode cL_law 1515 = .ok (.goto 2032, 3) := db_167 (bt_of (i := 43) lb_23 rfl rfl (by decide)) (bt_of (i := 44) lb_23 rfl rfl (by decide)) (bt_of (i := 45) lb_23 rfl rfl (by decide)) (by decide +kernel)
theorem dL_law_1518 : decode cL_law 1518 = .ok (.aload_n 1, 1) := db_43 (bt_of (i := 46) lb_23 rfl rfl (by decide))
theorem dL_law_1519 : decode cL_law 1519 = .ok (.aload_n 0, 1) := db_42 (bt_of (i := 47) lb_23 rfl rfl (by decide))
theorem dL_law_1520 : decode cL_law 1520 = .ok (.iload 4, 2) := db_21 (bt_of (i := 48) lb_23 rfl rfl (by decide)) (bt_of (i := 49) lb_23 rfl rfl (by decide))
theorem dL_law_1522 : decode cL_law 1522 = .ok (.iconst 1, 1) := db_4 (bt_of (i := 50) lb_23 rfl rfl (by decide))
theorem dL_law_1523 : decode cL_law 1523 = .ok (.iadd, 1) := db_96 (bt_of (i := 51) lb_23 rfl rfl (by decide))
theorem dL_law_1524 : decode cL_law 1524 = .ok (.iaload, 1) := db_46 (bt_of (i := 52) lb_23 rfl rfl (by decide))
theorem dL_law_1525 : decode cL_law 1525 = .ok (.aload_n 0, 1) := db_42 (bt_of (i := 53) lb_23 rfl rfl (by decide))
theorem dL_law_1526 : decode cL_law 1526 = .ok (.iload 4, 2) := db_21 (bt_of (i := 54) lb_23 rfl rfl (by decide)) (bt_of (i := 55) lb_23 rfl rfl (by decide))
theorem dL_law_1528 : decode cL_law 1528 = .ok (.iconst 2, 1) := db_5 (bt_of (i := 56) lb_23 rfl rfl (by decide))
theorem dL_law_1529 : decode cL_law 1529 = .ok (.iadd, 1) := db_96 (bt_of (i := 57) lb_23 rfl rfl (by decide))
theorem dL_law_1530 : decode cL_law 1530 = .ok (.iaload, 1) := db_46 (bt_of (i := 58) lb_23 rfl rfl (by decide))
theorem dL_law_1531 : decode cL_law 1531 = .ok (.aload_n 0, 1) := db_42 (bt_of (i := 59) lb_23 rfl rfl (by decide))
theorem dL_law_1532 : decode cL_law 1532 = .ok (.iload 4, 2) := db_21 (bt_of (i := 60) lb_23 rfl rfl (by decide)) (bt_of (i := 61) lb_23 rfl rfl (by decide))
theorem dL_law_1534 : decode cL_law 1534 = .ok (.iconst 3, 1) := db_6 (bt_of (i := 62) lb_23 rfl rfl (by decide))
theorem dL_law_1535 : decode cL_law 1535 = .ok (.iadd, 1) := db_96 (bt_of (i := 63) lb_23 rfl rfl (by decide))
theorem dL_law_1536 : decode cL_law 1536 = .ok (.iaload, 1) := db_46 (bt_of (i := 0) lb_24 rfl rfl (by decide))
theorem dL_law_1537 : decode cL_law 1537 = .ok (.aload_n 3, 1) := db_45 (bt_of (i := 1) lb_24 rfl rfl (by decide))
theorem dL_law_1538 : decode cL_law 1538 = .ok (.invokestatic 242, 3) := db_184 (bt_of (i := 2) lb_24 rfl rfl (by decide)) (bt_of (i := 3) lb_24 rfl rfl (by decide)) (bt_of (i := 4) lb_24 rfl rfl (by decide))
theorem dL_law_1541 : decode cL_law 1541 = .ok (.istore 5, 2) := db_54 (bt_of (i := 5) lb_24 rfl rfl (by decide)) (bt_of (i := 6) lb_24 rfl rfl (by decide))
theorem dL_law_1543 : decode cL_law 1543 = .ok (.aload_n 2, 1) := db_44 (bt_of (i := 7) lb_24 rfl rfl (by decide))
theorem dL_law_1544 : decode cL_law 1544 = .ok (.aload_n 0, 1) := db_42 (bt_of (i := 8) lb_24 rfl rfl (by decide))
theorem dL_law_1545 : decode cL_law 1545 = .ok (.iload 4, 2) := db_21 (bt_of (i := 9) lb_24 rfl rfl (by decide)) (bt_of (i := 10) lb_24 rfl rfl (by decide))
theorem dL_law_1547 : decode cL_law 1547 = .ok (.iconst 1, 1) := db_4 (bt_of (i := 11) lb_24 rfl rfl (by decide))
theorem dL_law_1548 : decode cL_law 1548 = .ok (.iadd, 1) := db_96 (bt_of (i := 12) lb_24 rfl rfl (by decide))
theorem dL_law_1549 : decode cL_law 1549 = .ok (.iaload, 1) := db_46 (bt_of (i := 13) lb_24 rfl rfl (by decide))
theorem dL_law_1550 : decode cL_law 1550 = .ok (.aload_n 0, 1) := db_42 (bt_of (i := 14) lb_24 rfl rfl (by decide))
theorem dL_law_1551 : decode cL_law 1551 = .ok (.iload 4, 2) := db_21 (bt_of (i := 15) lb_24 rfl rfl (by decide)) (bt_of (i := 16) lb_24 rfl rfl (by decide))
theorem dL_law_1553 : decode cL_law 1553 = .ok (.iconst 2, 1) := db_5 (bt_of (i := 17) lb_24 rfl rfl (by decide))
theorem dL_law_1554 : decode cL_law 1554 = .ok (.iadd, 1) := db_96 (bt_of (i := 18) lb_24 rfl rfl (by decide))
theorem dL_law_1555 : decode cL_law 1555 = .ok (.iaload, 1) := db_46 (bt_of (i := 19) lb_24 rfl rfl (by decide))
theorem dL_law_1556 : decode cL_law 1556 = .ok (.aload_n 0, 1) := db_42 (bt_of (i := 20) lb_24 rfl rfl (by decide))
theorem dL_law_1557 : decode cL_law 1557 = .ok (.iload 4, 2) := db_21 (bt_of (i := 21) lb_24 rfl rfl (by decide)) (bt_of (i := 22) lb_24 rfl rfl (by decide))
theorem dL_law_1559 : decode cL_law 1559 = .ok (.iconst 3, 1) := db_6 (bt_of (i := 23) lb_24 rfl rfl (by decide))
theorem dL_law_1560 : decode cL_law 1560 = .ok (.iadd, 1) := db_96 (bt_of (i := 24) lb_24 rfl rfl (by decide))
theorem dL_law_1561 : decode cL_law 1561 = .ok (.iaload, 1) := db_46 (bt_of (i := 25) lb_24 rfl rfl (by decide))
theorem dL_law_1562 : decode cL_law 1562 = .ok (.invokevirtual 244, 3) := db_182 (bt_of (i := 26) lb_24 rfl rfl (by decide)) (bt_of (i := 27) lb_24 rfl rfl (by decide)) (bt_of (i := 28) lb_24 rfl rfl (by decide))
theorem dL_law_1565 : decode cL_law 1565 = .ok (.istore 6, 2) := db_54 (bt_of (i := 29) lb_24 rfl rfl (by decide)) (bt_of (i := 30) lb_24 rfl rfl (by decide))
theorem dL_law_1567 : decode cL_law 1567 = .ok (.aload_n 2, 1) := db_44 (bt_of (i := 31) lb_24 rfl rfl (by decide))
theorem dL_law_1568 : decode cL_law 1568 = .ok (.invokevirtual 179, 3) := db_182 (bt_of (i := 32) lb_24 rfl rfl (by decide)) (bt_of (i := 33) lb_24 rfl rfl (by decide)) (bt_of (i := 34) lb_24 rfl rfl (by decide))
theorem dL_law_1571 : decode cL_law 1571 = .ok (.iload 5, 2) := db_21 (bt_of (i := 35) lb_24 rfl rfl (by decide)) (bt_of (i := 36) lb_24 rfl rfl (by decide))
theorem dL_law_1573 : decode cL_law 1573 = .ok (.if_icmp .eq 5, 3) := db_159 (bt_of (i := 37) lb_24 rfl rfl (by decide)) (bt_of (i := 38) lb_24 rfl rfl (by decide)) (bt_of (i := 39) lb_24 rfl rfl (by decide)) (by decide +kernel)
theorem dL_law_1576 : decode cL_law 1576 = .ok (.iconst 0, 1) := db_3 (bt_of (i := 40) lb_24 rfl rfl (by decide))
theorem dL_law_1577 : decode cL_law 1577 = .ok (.ireturn, 1) := db_172 (bt_of (i := 41) lb_24 rfl rfl (by decide))
theorem dL_law_1578 : decode cL_law 1578 = .ok (.iload 5, 2) := db_21 (bt_of (i := 42) lb_24 rfl rfl (by decide)) (bt_of (i := 43) lb_24 rfl rfl (by decide))
theorem dL_law_1580 : decode cL_law 1580 = .ok (.ifCond .ne 22, 3) := db_154 (bt_of (i := 44) lb_24 rfl rfl (by decide)) (bt_of (i := 45) lb_24 rfl rfl (by decide)) (bt_of (i := 46) lb_24 rfl rfl (by decide)) (by decide +kernel)
theorem dL_law_1583 : decode cL_law 1583 = .ok (.aload_n 3, 1) := db_45 (bt_of (i := 47) lb_24 rfl rfl (by decide))
theorem dL_law_1584 : decode cL_law 1584 = .ok (.iconst 0, 1) := db_3 (bt_of (i := 48) lb_24 rfl rfl (by decide))
theorem dL_law_1585 : decode cL_law 1585 = .ok (.laload, 1) := db_47 (bt_of (i := 49) lb_24 rfl rfl (by decide))
theorem dL_law_1586 : decode cL_law 1586 = .ok (.iload 6, 2) := db_21 (bt_of (i := 50) lb_24 rfl rfl (by decide)) (bt_of (i := 51) lb_24 rfl rfl (by decide))
theorem dL_law_1588 : decode cL_law 1588 = .ok (.ifCond .eq 7, 3) := db_153 (bt_of (i := 52) lb_24 rfl rfl (by decide)) (bt_of (i := 53) lb_24 rfl rfl (by decide)) (bt_of (i := 54) lb_24 rfl rfl (by decide)) (by decide +kernel)
theorem dL_law_1591 : decode cL_law 1591 = .ok (.lconst 1, 1) := db_10 (bt_of (i := 55) lb_24 rfl rfl (by decide))
theorem dL_law_1592 : decode cL_law 1592 = .ok (.goto 4, 3) := db_167 (bt_of (i := 56) lb_24 rfl rfl (by decide)) (bt_of (i := 57) lb_24 rfl rfl (by decide)) (bt_of (i := 58) lb_24 rfl rfl (by decide)) (by decide +kernel)
theorem dL_law_1595 : decode cL_law 1595 = .ok (.lconst 0, 1) := db_9 (bt_of (i := 59) lb_24 rfl rfl (by decide))
theorem dL_law_1596 : decode cL_law 1596 = .ok (.lcmp, 1) := db_148 (bt_of (i := 60) lb_24 rfl rfl (by decide))
theorem dL_law_1597 : decode cL_law 1597 = .ok (.ifCond .eq 5, 3) := db_153 (bt_of (i := 61) lb_24 rfl rfl (by decide)) (bt_of (i := 62) lb_24 rfl rfl (by decide)) (bt_of (i := 63) lb_24 rfl rfl (by decide)) (by decide +kernel)
theorem dL_law_1600 : decode cL_law 1600 = .ok (.iconst 0, 1) := db_3 (bt_of (i := 0) lb_25 rfl rfl (by decide))
theorem dL_law_1601 : decode cL_law 1601 = .ok (.ireturn, 1) := db_172 (bt_of (i := 1) lb_25 rfl rfl (by decide))
theorem dL_law_1602 : decode cL_law 1602 = .ok (.goto 1945, 3) := db_167 (bt_of (i := 2) lb_25 rfl rfl (by decide)) (bt_of (i := 3) lb_25 rfl rfl (by decide)) (bt_of (i := 4) lb_25 rfl rfl (by decide)) (by decide +kernel)
theorem dL_law_1605 : decode cL_law 1605 = .ok (.aload_n 1, 1) := db_43 (bt_of (i := 5) lb_25 rfl rfl (by decide))
theorem dL_law_1606 : decode cL_law 1606 = .ok (.aload_n 0, 1) := db_42 (bt_of (i := 6) lb_25 rfl rfl (by decide))
theorem dL_law_1607 : decode cL_law 1607 = .ok (.iload 4, 2) := db_21 (bt_of (i := 7) lb_25 rfl rfl (by decide)) (bt_of (i := 8) lb_25 rfl rfl (by decide))
theorem dL_law_1609 : decode cL_law 1609 = .ok (.iconst 1, 1) := db_4 (bt_of (i := 9) lb_25 rfl rfl (by decide))
theorem dL_law_1610 : decode cL_law 1610 = .ok (.iadd, 1) := db_96 (bt_of (i := 10) lb_25 rfl rfl (by decide))
theorem dL_law_1611 : decode cL_law 1611 = .ok (.iaload, 1) := db_46 (bt_of (i := 11) lb_25 rfl rfl (by decide))
theorem dL_law_1612 : decode cL_law 1612 = .ok (.aload_n 0, 1) := db_42 (bt_of (i := 12) lb_25 rfl rfl (by decide))
theorem dL_law_1613 : decode cL_law 1613 = .ok (.iload 4, 2) := db_21 (bt_of (i := 13) lb_25 rfl rfl (by decide)) (bt_of (i := 14) lb_25 rfl rfl (by decide))
theorem dL_law_1615 : decode cL_law 1615 = .ok (.iconst 2, 1) := db_5 (bt_of (i := 15) lb_25 rfl rfl (by decide))
theorem dL_law_1616 : decode cL_law 1616 = .ok (.iadd, 1) := db_96 (bt_of (i := 16) lb_25 rfl rfl (by decide))
theorem dL_law_1617 : decode cL_law 1617 = .ok (.iaload, 1) := db_46 (bt_of (i := 17) lb_25 rfl rfl (by decide))
theorem dL_law_1618 : decode cL_law 1618 = .ok (.aload_n 0, 1) := db_42 (bt_of (i := 18) lb_25 rfl rfl (by decide))
theorem dL_law_1619 : decode cL_law 1619 = .ok (.iload 4, 2) := db_21 (bt_of (i := 19) lb_25 rfl rfl (by decide)) (bt_of (i := 20) lb_25 rfl rfl (by decide))
theorem dL_law_1621 : decode cL_law 1621 = .ok (.iconst 3, 1) := db_6 (bt_of (i := 21) lb_25 rfl rfl (by decide))
theorem dL_law_1622 : decode cL_law 1622 = .ok (.iadd, 1) := db_96 (bt_of (i := 22) lb_25 rfl rfl (by decide))
theorem dL_law_1623 : decode cL_law 1623 = .ok (.iaload, 1) := db_46 (bt_of (i := 23) lb_25 rfl rfl (by decide))
theorem dL_law_1624 : decode cL_law 1624 = .ok (.i2l, 1) := db_133 (bt_of (i := 24) lb_25 rfl rfl (by decide))
theorem dL_law_1625 : decode cL_law 1625 = .ok (.bipush 32, 2) := db_16 (bt_of (i := 25) lb_25 rfl rfl (by decide)) (bt_of (i := 26) lb_25 rfl rfl (by decide))
theorem dL_law_1627 : decode cL_law 1627 = .ok (.lshl, 1) := db_121 (bt_of (i := 27) lb_25 rfl rfl (by decide))
theorem dL_law_1628 : decode cL_law 1628 = .ok (.aload_n 0, 1) := db_42 (bt_of (i := 28) lb_25 rfl rfl (by decide))
theorem dL_law_1629 : decode cL_law 1629 = .ok (.iload 4, 2) := db_21 (bt_of (i := 29) lb_25 rfl rfl (by decide)) (bt_of (i := 30) lb_25 rfl rfl (by decide))
theorem dL_law_1631 : decode cL_law 1631 = .ok (.iconst 4, 1) := db_7 (bt_of (i := 31) lb_25 rfl rfl (by decide))
theorem dL_law_1632 : decode cL_law 1632 = .ok (.iadd, 1) := db_96 (bt_of (i := 32) lb_25 rfl rfl (by decide))
theorem dL_law_1633 : decode cL_law 1633 = .ok (.iaload, 1) := db_46 (bt_of (i := 33) lb_25 rfl rfl (by decide))
theorem dL_law_1634 : decode cL_law 1634 = .ok (.i2l, 1) := db_133 (bt_of (i := 34) lb_25 rfl rfl (by decide))
theorem dL_law_1635 : decode cL_law 1635 = .ok (.ldc2_w 171, 3) := db_20 (bt_of (i := 35) lb_25 rfl rfl (by decide)) (bt_of (i := 36) lb_25 rfl rfl (by decide)) (bt_of (i := 37) lb_25 rfl rfl (by decide))
theorem dL_law_1638 : decode cL_law 1638 = .ok (.land, 1) := db_127 (bt_of (i := 38) lb_25 rfl rfl (by decide))
theorem dL_law_1639 : decode cL_law 1639 = .ok (.lor, 1) := db_129 (bt_of (i := 39) lb_25 rfl rfl (by decide))
theorem dL_law_1640 : decode cL_law 1640 = .ok (.aload_n 3, 1) := db_45 (bt_of (i := 40) lb_25 rfl rfl (by decide))
theorem dL_law_1641 : decode cL_law 1641 = .ok (.invokestatic 245, 3) := db_184 (bt_of (i := 41) lb_25 rfl rfl (by decide)) (bt_of (i := 42) lb_25 rfl rfl (by decide)) (bt_of (i := 43) lb_25 rfl rfl (by decide))
theorem dL_law_1644 : decode cL_law 1644 = .ok (.istore 5, 2) := db_54 (bt_of (i := 44) lb_25 rfl rfl (by decide)) (bt_of (i := 45) lb_25 rfl rfl (by decide))
theorem dL_law_1646 : decode cL_law 1646 = .ok (.aload_n 2, 1) := db_44 (bt_of (i := 46) lb_25 rfl rfl (by decide))
theorem dL_law_1647 : decode cL_law 1647 = .ok (.aload_n 0, 1) := db_42 (bt_of (i := 47) lb_25 rfl rfl (by decide))
theorem dL_law_1648 : decode cL_law 1648 = .ok (.iload 4, 2) := db_21 (bt_of (i := 48) lb_25 rfl rfl (by decide)) (bt_of (i := 49) lb_25 rfl rfl (by decide))
theorem dL_law_1650 : decode cL_law 1650 = .ok (.iconst 1, 1) := db_4 (bt_of (i := 50) lb_25 rfl rfl (by decide))
theorem dL_law_1651 : decode cL_law 1651 = .ok (.iadd, 1) := db_96 (bt_of (i := 51) lb_25 rfl rfl (by decide))
theorem dL_law_1652 : decode cL_law 1652 = .ok (.iaload, 1) := db_46 (bt_of (i := 52) lb_25 rfl rfl (by decide))
theorem dL_law_1653 : decode cL_law 1653 = .ok (.aload_n 0, 1) := db_42 (bt_of (i := 53) lb_25 rfl rfl (by decide))
theorem dL_law_1654 : decode cL_law 1654 = .ok (.iload 4, 2) := db_21 (bt_of (i := 54) lb_25 rfl rfl (by decide)) (bt_of (i := 55) lb_25 rfl rfl (by decide))
theorem dL_law_1656 : decode cL_law 1656 = .ok (.iconst 2, 1) := db_5 (bt_of (i := 56) lb_25 rfl rfl (by decide))
theorem dL_law_1657 : decode cL_law 1657 = .ok (.iadd, 1) := db_96 (bt_of (i := 57) lb_25 rfl rfl (by decide))
theorem dL_law_1658 : decode cL_law 1658 = .ok (.iaload, 1) := db_46 (bt_of (i := 58) lb_25 rfl rfl (by decide))
theorem dL_law_1659 : decode cL_law 1659 = .ok (.aload_n 0, 1) := db_42 (bt_of (i := 59) lb_25 rfl rfl (by decide))
theorem dL_law_1660 : decode cL_law 1660 = .ok (.iload 4, 2) := db_21 (bt_of (i := 60) lb_25 rfl rfl (by decide)) (bt_of (i := 61) lb_25 rfl rfl (by decide))
theorem dL_law_1662 : decode cL_law 1662 = .ok (.iconst 3, 1) := db_6 (bt_of (i := 62) lb_25 rfl rfl (by decide))
theorem dL_law_1663 : decode cL_law 1663 = .ok (.iadd, 1) := db_96 (bt_of (i := 63) lb_25 rfl rfl (by decide))
theorem dL_law_1664 : decode cL_law 1664 = .ok (.iaload, 1) := db_46 (bt_of (i := 0) lb_26 rfl rfl (by decide))
theorem dL_law_1665 : decode cL_law 1665 = .ok (.i2l, 1) := db_133 (bt_of (i := 1) lb_26 rfl rfl (by decide))
theorem dL_law_1666 : decode cL_law 1666 = .ok (.bipush 32, 2) := db_16 (bt_of (i := 2) lb_26 rfl rfl (by decide)) (bt_of (i := 3) lb_26 rfl rfl (by decide))
theorem dL_law_1668 : decode cL_law 1668 = .ok (.lshl, 1) := db_121 (bt_of (i := 4) lb_26 rfl rfl (by decide))
theorem dL_law_1669 : decode cL_law 1669 = .ok (.aload_n 0, 1) := db_42 (bt_of (i := 5) lb_26 rfl rfl (by decide))
theorem dL_law_1670 : decode cL_law 1670 = .ok (.iload 4, 2) := db_21 (bt_of (i := 6) lb_26 rfl rfl (by decide)) (bt_of (i := 7) lb_26 rfl rfl (by decide))
theorem dL_law_1672 : decode cL_law 1672 = .ok (.iconst 4, 1) := db_7 (bt_of (i := 8) lb_26 rfl rfl (by decide))
theorem dL_law_1673 : decode cL_law 1673 = .ok (.iadd, 1) := db_96 (bt_of (i := 9) lb_26 rfl rfl (by decide))
theorem dL_law_1674 : decode cL_law 1674 = .ok (.iaload, 1) := db_46 (bt_of (i := 10) lb_26 rfl rfl (by decide))
theorem dL_law_1675 : decode cL_law 1675 = .ok (.i2l, 1) := db_133 (bt_of (i := 11) lb_26 rfl rfl (by decide))
theorem dL_law_1676 : decode cL_law 1676 = .ok (.ldc2_w 171, 3) := db_20 (bt_of (i := 12) lb_26 rfl rfl (by decide)) (bt_of (i := 13) lb_26 rfl rfl (by decide)) (bt_of (i := 14) lb_26 rfl rfl (by decide))
theorem dL_law_1679 : decode cL_law 1679 = .ok (.land, 1) := db_127 (bt_of (i := 15) lb_26 rfl rfl (by decide))
theorem dL_law_1680 : decode cL_law 1680 = .ok (.lor, 1) := db_129 (bt_of (i := 16) lb_26 rfl rfl (by decide))
theorem dL_law_1681 : decode cL_law 1681 = .ok (.invokevirtual 248, 3) := db_182 (bt_of (i := 17) lb_26 rfl rfl (by decide)) (bt_of (i := 18) lb_26 rfl rfl (by decide)) (bt_of (i := 19) lb_26 rfl rfl (by decide))
theorem dL_law_1684 : decode cL_law 1684 = .ok (.lstore 6, 2) := db_55 (bt_of (i := 20) lb_26 rfl rfl (by decide)) (bt_of (i := 21) lb_26 rfl rfl (by decide))
theorem dL_law_1686 : decode cL_law 1686 = .ok (.aload_n 2, 1) := db_44 (bt_of (i := 22) lb_26 rfl rfl (by decide))
theorem dL_law_1687 : decode cL_law 1687 = .ok (.invokevirtual 179, 3) := db_182 (bt_of (i := 23) lb_26 rfl rfl (by decide)) (bt_of (i := 24) lb_26 rfl rfl (by decide)) (bt_of (i := 25) lb_26 rfl rfl (by decide))
theorem dL_law_1690 : decode cL_law 1690 = .ok (.iload 5, 2) := db_21 (bt_of (i := 26) lb_26 rfl rfl (by decide)) (bt_of (i := 27) lb_26 rfl rfl (by decide))
theorem dL_law_1692 : decode cL_law 1692 = .ok (.if_icmp .eq 5, 3) := db_159 (bt_of (i := 28) lb_26 rfl rfl (by decide)) (bt_of (i := 29) lb_26 rfl rfl (by decide)) (bt_of (i := 30) lb_26 rfl rfl (by decide)) (by decide +kernel)
theorem dL_law_1695 : decode cL_law 1695 = .ok (.iconst 0, 1) := db_3 (bt_of (i := 31) lb_26 rfl rfl (by decide))
theorem dL_law_1696 : decode cL_law 1696 = .ok (.ireturn, 1) := db_172 (bt_of (i := 32) lb_26 rfl rfl (by decide))
theorem dL_law_1697 : decode cL_law 1697 = .ok (.iload 5, 2) := db_21 (bt_of (i := 33) lb_26 rfl rfl (by decide)) (bt_of (i := 34) lb_26 rfl rfl (by decide))
theorem dL_law_1699 : decode cL_law 1699 = .ok (.ifCond .ne 14, 3) := db_154 (bt_of (i := 35) lb_26 rfl rfl (by decide)) (bt_of (i := 36) lb_26 rfl rfl (by decide)) (bt_of (i := 37) lb_26 rfl rfl (by decide)) (by decide +kernel)
theorem dL_law_1702 : decode cL_law 1702 = .ok (.aload_n 3, 1) := db_45 (bt_of (i := 38) lb_26 rfl rfl (by decide))
theorem dL_law_1703 : decode cL_law 1703 = .ok (.iconst 0, 1) := db_3 (bt_of (i := 39) lb_26 rfl rfl (by decide))
theorem dL_law_1704 : decode cL_law 1704 = .ok (.laload, 1) := db_47 (bt_of (i := 40) lb_26 rfl rfl (by decide))
theorem dL_law_1705 : decode cL_law 1705 = .ok (.lload 6, 2) := db_22 (bt_of (i := 41) lb_26 rfl rfl (by decide)) (bt_of (i := 42) lb_26 rfl rfl (by decide))
theorem dL_law_1707 : decode cL_law 1707 = .ok (.lcmp, 1) := db_148 (bt_of (i := 43) lb_26 rfl rfl (by decide))
theorem dL_law_1708 : decode cL_law 1708 = .ok (.ifCond .eq 5, 3) := db_153 (bt_of (i := 44) lb_26 rfl rfl (by decide)) (bt_of (i := 45) lb_26 rfl rfl (by decide)) (bt_of (i := 46) lb_26 rfl rfl (by decide)) (by decide +kernel)
theorem dL_law_1711 : decode cL_law 1711 = .ok (.iconst 0, 1) := db_3 (bt_of (i := 47) lb_26 rfl rfl (by decide))
theorem dL_law_1712 : decode cL_law 1712 = .ok (.ireturn, 1) := db_172 (bt_of (i := 48) lb_26 rfl rfl (by decide))
theorem dL_law_1713 : decode cL_law 1713 = .ok (.goto 1834, 3) := db_167 (bt_of (i := 49) lb_26 rfl rfl (by decide)) (bt_of (i := 50) lb_26 rfl rfl (by decide)) (bt_of (i := 51) lb_26 rfl rfl (by decide)) (by decide +kernel)
theorem dL_law_1716 : decode cL_law 1716 = .ok (.aload_n 1, 1) := db_43 (bt_of (i := 52) lb_26 rfl rfl (by decide))
theorem dL_law_1717 : decode cL_law 1717 = .ok (.aload_n 0, 1) := db_42 (bt_of (i := 53) lb_26 rfl rfl (by decide))
theorem dL_law_1718 : decode cL_law 1718 = .ok (.iload 4, 2) := db_21 (bt_of (i := 54) lb_26 rfl rfl (by decide)) (bt_of (i := 55) lb_26 rfl rfl (by decide))
theorem dL_law_1720 : decode cL_law 1720 = .ok (.iconst 1, 1) := db_4 (bt_of (i := 56) lb_26 rfl rfl (by decide))
theorem dL_law_1721 : decode cL_law 1721 = .ok (.iadd, 1) := db_96 (bt_of (i := 57) lb_26 rfl rfl (by decide))
theorem dL_law_1722 : decode cL_law 1722 = .ok (.iaload, 1) := db_46 (bt_of (i := 58) lb_26 rfl rfl (by decide))
theorem dL_law_1723 : decode cL_law 1723 = .ok (.aload_n 0, 1) := db_42 (bt_of (i := 59) lb_26 rfl rfl (by decide))
theorem dL_law_1724 : decode cL_law 1724 = .ok (.iload 4, 2) := db_21 (bt_of (i := 60) lb_26 rfl rfl (by decide)) (bt_of (i := 61) lb_26 rfl rfl (by decide))
theorem dL_law_1726 : decode cL_law 1726 = .ok (.iconst 2, 1) := db_5 (bt_of (i := 62) lb_26 rfl rfl (by decide))
theorem dL_law_1727 : decode cL_law 1727 = .ok (.iadd, 1) := db_96 (bt_of (i := 63) lb_26 rfl rfl (by decide))
theorem dL_law_1728 : decode cL_law 1728 = .ok (.iaload, 1) := db_46 (bt_of (i := 0) lb_27 rfl rfl (by decide))
theorem dL_law_1729 : decode cL_law 1729 = .ok (.aload_n 0, 1) := db_42 (bt_of (i := 1) lb_27 rfl rfl (by decide))
theorem dL_law_1730 : decode cL_law 1730 = .ok (.iload 4, 2) := db_21 (bt_of (i := 2) lb_27 rfl rfl (by decide)) (bt_of (i := 3) lb_27 rfl rfl (by decide))
theorem dL_law_1732 : decode cL_law 1732 = .ok (.iconst 3, 1) := db_6 (bt_of (i := 4) lb_27 rfl rfl (by decide))
theorem dL_law_1733 : decode cL_law 1733 = .ok (.iadd, 1) := db_96 (bt_of (i := 5) lb_27 rfl rfl (by decide))
theorem dL_law_1734 : decode cL_law 1734 = .ok (.iaload, 1) := db_46 (bt_of (i := 6) lb_27 rfl rfl (by decide))
theorem dL_law_1735 : decode cL_law 1735 = .ok (.i2l, 1) := db_133 (bt_of (i := 7) lb_27 rfl rfl (by decide))
theorem dL_law_1736 : decode cL_law 1736 = .ok (.bipush 32, 2) := db_16 (bt_of (i := 8) lb_27 rfl rfl (by decide)) (bt_of (i := 9) lb_27 rfl rfl (by decide))
theorem dL_law_1738 : decode cL_law 1738 = .ok (.lshl, 1) := db_121 (bt_of (i := 10) lb_27 rfl rfl (by decide))
theorem dL_law_1739 : decode cL_law 1739 = .ok (.aload_n 0, 1) := db_42 (bt_of (i := 11) lb_27 rfl rfl (by decide))
theorem dL_law_1740 : decode cL_law 1740 = .ok (.iload 4, 2) := db_21 (bt_of (i := 12) lb_27 rfl rfl (by decide)) (bt_of (i := 13) lb_27 rfl rfl (by decide))
theorem dL_law_1742 : decode cL_law 1742 = .ok (.iconst 4, 1) := db_7 (bt_of (i := 14) lb_27 rfl rfl (by decide))
theorem dL_law_1743 : decode cL_law 1743 = .ok (.iadd, 1) := db_96 (bt_of (i := 15) lb_27 rfl rfl (by decide))
theorem dL_law_1744 : decode cL_law 1744 = .ok (.iaload, 1) := db_46 (bt_of (i := 16) lb_27 rfl rfl (by decide))
theorem dL_law_1745 : decode cL_law 1745 = .ok (.i2l, 1) := db_133 (bt_of (i := 17) lb_27 rfl rfl (by decide))
theorem dL_law_1746 : decode cL_law 1746 = .ok (.ldc2_w 171, 3) := db_20 (bt_of (i := 18) lb_27 rfl rfl (by decide)) (bt_of (i := 19) lb_27 rfl rfl (by decide)) (bt_of (i := 20) lb_27 rfl rfl (by decide))
theorem dL_law_1749 : decode cL_law 1749 = .ok (.land, 1) := db_127 (bt_of (i := 21) lb_27 rfl rfl (by decide))
theorem dL_law_1750 : decode cL_law 1750 = .ok (.lor, 1) := db_129 (bt_of (i := 22) lb_27 rfl rfl (by decide))
theorem dL_law_1751 : decode cL_law 1751 = .ok (.aload_n 3, 1) := db_45 (bt_of (i := 23) lb_27 rfl rfl (by decide))
theorem dL_law_1752 : decode cL_law 1752 = .ok (.invokestatic 249, 3) := db_184 (bt_of (i := 24) lb_27 rfl rfl (by decide)) (bt_of (i := 25) lb_27 rfl rfl (by decide)) (bt_of (i := 26) lb_27 rfl rfl (by decide))
theorem dL_law_1755 : decode cL_law 1755 = .ok (.istore 5, 2) := db_54 (bt_of (i := 27) lb_27 rfl rfl (by decide)) (bt_of (i := 28) lb_27 rfl rfl (by decide))
theorem dL_law_1757 : decode cL_law 1757 = .ok (.aload_n 2, 1) := db_44 (bt_of (i := 29) lb_27 rfl rfl (by decide))
theorem dL_law_1758 : decode cL_law 1758 = .ok (.aload_n 0, 1) := db_42 (bt_of (i := 30) lb_27 rfl rfl (by decide))
theorem dL_law_1759 : decode cL_law 1759 = .ok (.iload 4, 2) := db_21 (bt_of (i := 31) lb_27 rfl rfl (by decide)) (bt_of (i := 32) lb_27 rfl rfl (by decide))
theorem dL_law_1761 : decode cL_law 1761 = .ok (.iconst 1, 1) := db_4 (bt_of (i := 33) lb_27 rfl rfl (by decide))
theorem dL_law_1762 : decode cL_law 1762 = .ok (.iadd, 1) := db_96 (bt_of (i := 34) lb_27 rfl rfl (by decide))
theorem dL_law_1763 : decode cL_law 1763 = .ok (.iaload, 1) := db_46 (bt_of (i := 35) lb_27 rfl rfl (by decide))
theorem dL_law_1764 : decode cL_law 1764 = .ok (.aload_n 0, 1) := db_42 (bt_of (i := 36) lb_27 rfl rfl (by decide))
theorem dL_law_1765 : decode cL_law 1765 = .ok (.iload 4, 2) := db_21 (bt_of (i := 37) lb_27 rfl rfl (by decide)) (bt_of (i := 38) lb_27 rfl rfl (by decide))
theorem dL_law_1767 : decode cL_law 1767 = .ok (.iconst 2, 1) := db_5 (bt_of (i := 39) lb_27 rfl rfl (by decide))
theorem dL_law_1768 : decode cL_law 1768 = .ok (.iadd, 1) := db_96 (bt_of (i := 40) lb_27 rfl rfl (by decide))
theorem dL_law_1769 : decode cL_law 1769 = .ok (.iaload, 1) := db_46 (bt_of (i := 41) lb_27 rfl rfl (by decide))
theorem dL_law_1770 : decode cL_law 1770 = .ok (.aload_n 0, 1) := db_42 (bt_of (i := 42) lb_27 rfl rfl (by decide))
theorem dL_law_1771 : decode cL_law 1771 = .ok (.iload 4, 2) := db_21 (bt_of (i := 43) lb_27 rfl rfl (by decide)) (bt_of (i := 44) lb_27 rfl rfl (by decide))
theorem dL_law_1773 : decode cL_law 1773 = .ok (.iconst 3, 1) := db_6 (bt_of (i := 45) lb_27 rfl rfl (by decide))
theorem dL_law_1774 : decode cL_law 1774 = .ok (.iadd, 1) := db_96 (bt_of (i := 46) lb_27 rfl rfl (by decide))
theorem dL_law_1775 : decode cL_law 1775 = .ok (.iaload, 1) := db_46 (bt_of (i := 47) lb_27 rfl rfl (by decide))
theorem dL_law_1776 : decode cL_law 1776 = .ok (.i2l, 1) := db_133 (bt_of (i := 48) lb_27 rfl rfl (by decide))
theorem dL_law_1777 : decode cL_law 1777 = .ok (.bipush 32, 2) := db_16 (bt_of (i := 49) lb_27 rfl rfl (by decide)) (bt_of (i := 50) lb_27 rfl rfl (by decide))
theorem dL_law_1779 : decode cL_law 1779 = .ok (.lshl, 1) := db_121 (bt_of (i := 51) lb_27 rfl rfl (by decide))
theorem dL_law_1780 : decode cL_law 1780 = .ok (.aload_n 0, 1) := db_42 (bt_of (i := 52) lb_27 rfl rfl (by decide))
theorem dL_law_1781 : decode cL_law 1781 = .ok (.iload 4, 2) := db_21 (bt_of (i := 53) lb_27 rfl rfl (by decide)) (bt_of (i := 54) lb_27 rfl rfl (by decide))
theorem dL_law_1783 : decode cL_law 1783 = .ok (.iconst 4, 1) := db_7 (bt_of (i := 55) lb_27 rfl rfl (by decide))
theorem dL_law_1784 : decode cL_law 1784 = .ok (.iadd, 1) := db_96 (bt_of (i := 56) lb_27 rfl rfl (by decide))
theorem dL_law_1785 : decode cL_law 1785 = .ok (.iaload, 1) := db_46 (bt_of (i := 57) lb_27 rfl rfl (by decide))
theorem dL_law_1786 : decode cL_law 1786 = .ok (.i2l, 1) := db_133 (bt_of (i := 58) lb_27 rfl rfl (by decide))
theorem dL_law_1787 : decode cL_law 1787 = .ok (.ldc2_w 171, 3) := db_20 (bt_of (i := 59) lb_27 rfl rfl (by decide)) (bt_of (i := 60) lb_27 rfl rfl (by decide)) (bt_of (i := 61) lb_27 rfl rfl (by decide))
theorem dL_law_1790 : decode cL_law 1790 = .ok (.land, 1) := db_127 (bt_of (i := 62) lb_27 rfl rfl (by decide))
theorem dL_law_1791 : decode cL_law 1791 = .ok (.lor, 1) := db_129 (bt_of (i := 63) lb_27 rfl rfl (by decide))
theorem dL_law_1792 : decode cL_law 1792 = .ok (.invokevirtual 251, 3) := db_182 (bt_of (i := 0) lb_28 rfl rfl (by decide)) (bt_of (i := 1) lb_28 rfl rfl (by decide)) (bt_of (i := 2) lb_28 rfl rfl (by decide))
theorem dL_law_1795 : decode cL_law 1795 = .ok (.lstore 6, 2) := db_55 (bt_of (i := 3) lb_28 rfl rfl (by decide)) (bt_of (i := 4) lb_28 rfl rfl (by decide))
theorem dL_law_1797 : decode cL_law 1797 = .ok (.aload_n 2, 1) := db_44 (bt_of (i := 5) lb_28 rfl rfl (by decide))
theorem dL_law_1798 : decode cL_law 1798 = .ok (.invokevirtual 179, 3) := db_182 (bt_of (i := 6) lb_28 rfl rfl (by decide)) (bt_of (i := 7) lb_28 rfl rfl (by decide)) (bt_of (i := 8) lb_28 rfl rfl (by decide))
theorem dL_law_1801 : decode cL_law 1801 = .ok (.iload 5, 2) := db_21 (bt_of (i := 9) lb_28 rfl rfl (by decide)) (bt_of (i := 10) lb_28 rfl rfl (by decide))
theorem dL_law_1803 : decode cL_law 1803 = .ok (.if_icmp .eq 5, 3) := db_159 (bt_of (i := 11) lb_28 rfl rfl (by decide)) (bt_of (i := 12) lb_28 rfl rfl (by decide)) (bt_of (i := 13) lb_28 rfl rfl (by decide)) (by decide +kernel)
theorem dL_law_1806 : decode cL_law 1806 = .ok (.iconst 0, 1) := db_3 (bt_of (i := 14) lb_28 rfl rfl (by decide))
theorem dL_law_1807 : decode cL_law 1807 = .ok (.ireturn, 1) := db_172 (bt_of (i := 15) lb_28 rfl rfl (by decide))
theorem dL_law_1808 : decode cL_law 1808 = .ok (.iload 5, 2) := db_21 (bt_of (i := 16) lb_28 rfl rfl (by decide)) (bt_of (i := 17) lb_28 rfl rfl (by decide))
theorem dL_law_1810 : decode cL_law 1810 = .ok (.ifCond .ne 14, 3) := db_154 (bt_of (i := 18) lb_28 rfl rfl (by decide)) (bt_of (i := 19) lb_28 rfl rfl (by decide)) (bt_of (i := 20) lb_28 rfl rfl (by decide)) (by decide +kernel)
theorem dL_law_1813 : decode cL_law 1813 = .ok (.aload_n 3, 1) := db_45 (bt_of (i := 21) lb_28 rfl rfl (by decide))
theorem dL_law_1814 : decode cL_law 1814 = .ok (.iconst 0, 1) := db_3 (bt_of (i := 22) lb_28 rfl rfl (by decide))
theorem dL_law_1815 : decode cL_law 1815 = .ok (.laload, 1) := db_47 (bt_of (i := 23) lb_28 rfl rfl (by decide))
theorem dL_law_1816 : decode cL_law 1816 = .ok (.lload 6, 2) := db_22 (bt_of (i := 24) lb_28 rfl rfl (by decide)) (bt_of (i := 25) lb_28 rfl rfl (by decide))
theorem dL_law_1818 : decode cL_law 1818 = .ok (.lcmp, 1) := db_148 (bt_of (i := 26) lb_28 rfl rfl (by decide))
theorem dL_law_1819 : decode cL_law 1819 = .ok (.ifCond .eq 5, 3) := db_153 (bt_of (i := 27) lb_28 rfl rfl (by decide)) (bt_of (i := 28) lb_28 rfl rfl (by decide)) (bt_of (i := 29) lb_28 rfl rfl (by decide)) (by decide +kernel)
theorem dL_law_1822 : decode cL_law 1822 = .ok (.iconst 0, 1) := db_3 (bt_of (i := 30) lb_28 rfl rfl (by decide))
theorem dL_law_1823 : decode cL_law 1823 = .ok (.ireturn, 1) := db_172 (bt_of (i := 31) lb_28 rfl rfl (by decide))
theorem dL_law_1824 : decode cL_law 1824 = .ok (.goto 1723, 3) := db_167 (bt_of (i := 32) lb_28 rfl rfl (by decide)) (bt_of (i := 33) lb_28 rfl rfl (by decide)) (bt_of (i := 34) lb_28 rfl rfl (by decide)) (by decide +kernel)
theorem dL_law_1827 : decode cL_law 1827 = .ok (.aload_n 1, 1) := db_43 (bt_of (i := 35) lb_28 rfl rfl (by decide))
theorem dL_law_1828 : decode cL_law 1828 = .ok (.aload_n 0, 1) := db_42 (bt_of (i := 36) lb_28 rfl rfl (by decide))
theorem dL_law_1829 : decode cL_law 1829 = .ok (.iload 4, 2) := db_21 (bt_of (i := 37) lb_28 rfl rfl (by decide)) (bt_of (i := 38) lb_28 rfl rfl (by decide))
theorem dL_law_1831 : decode cL_law 1831 = .ok (.iconst 1, 1) := db_4 (bt_of (i := 39) lb_28 rfl rfl (by decide))
theorem dL_law_1832 : decode cL_law 1832 = .ok (.iadd, 1) := db_96 (bt_of (i := 40) lb_28 rfl rfl (by decide))
theorem dL_law_1833 : decode cL_law 1833 = .ok (.iaload, 1) := db_46 (bt_of (i := 41) lb_28 rfl rfl (by decide))
theorem dL_law_1834 : decode cL_law 1834 = .ok (.aload_n 0, 1) := db_42 (bt_of (i := 42) lb_28 rfl rfl (by decide))
theorem dL_law_1835 : decode cL_law 1835 = .ok (.iload 4, 2) := db_21 (bt_of (i := 43) lb_28 rfl rfl (by decide)) (bt_of (i := 44) lb_28 rfl rfl (by decide))
theorem dL_law_1837 : decode cL_law 1837 = .ok (.iconst 2, 1) := db_5 (bt_of (i := 45) lb_28 rfl rfl (by decide))
theorem dL_law_1838 : decode cL_law 1838 = .ok (.iadd, 1) := db_96 (bt_of (i := 46) lb_28 rfl rfl (by decide))
theorem dL_law_1839 : decode cL_law 1839 = .ok (.iaload, 1) := db_46 (bt_of (i := 47) lb_28 rfl rfl (by decide))
theorem dL_law_1840 : decode cL_law 1840 = .ok (.aload_n 0, 1) := db_42 (bt_of (i := 48) lb_28 rfl rfl (by decide))
theorem dL_law_1841 : decode cL_law 1841 = .ok (.iload 4, 2) := db_21 (bt_of (i := 49) lb_28 rfl rfl (by decide)) (bt_of (i := 50) lb_28 rfl rfl (by decide))
theorem dL_law_1843 : decode cL_law 1843 = .ok (.iconst 3, 1) := db_6 (bt_of (i := 51) lb_28 rfl rfl (by decide))
theorem dL_law_1844 : decode cL_law 1844 = .ok (.iadd, 1) := db_96 (bt_of (i := 52) lb_28 rfl rfl (by decide))
theorem dL_law_1845 : decode cL_law 1845 = .ok (.iaload, 1) := db_46 (bt_of (i := 53) lb_28 rfl rfl (by decide))
theorem dL_law_1846 : decode cL_law 1846 = .ok (.aload_n 3, 1) := db_45 (bt_of (i := 54) lb_28 rfl rfl (by decide))
theorem dL_law_1847 : decode cL_law 1847 = .ok (.invokestatic 252, 3) := db_184 (bt_of (i := 55) lb_28 rfl rfl (by decide)) (bt_of (i := 56) lb_28 rfl rfl (by decide)) (bt_of (i := 57) lb_28 rfl rfl (by decide))
theorem dL_law_1850 : decode cL_law 1850 = .ok (.istore 5, 2) := db_54 (bt_of (i := 58) lb_28 rfl rfl (by decide)) (bt_of (i := 59) lb_28 rfl rfl (by decide))
theorem dL_law_1852 : decode cL_law 1852 = .ok (.aload_n 2, 1) := db_44 (bt_of (i := 60) lb_28 rfl rfl (by decide))
theorem dL_law_1853 : decode cL_law 1853 = .ok (.aload_n 0, 1) := db_42 (bt_of (i := 61) lb_28 rfl rfl (by decide))
theorem dL_law_1854 : decode cL_law 1854 = .ok (.iload 4, 2) := db_21 (bt_of (i := 62) lb_28 rfl rfl (by decide)) (bt_of (i := 63) lb_28 rfl rfl (by decide))
theorem dL_law_1856 : decode cL_law 1856 = .ok (.iconst 1, 1) := db_4 (bt_of (i := 0) lb_29 rfl rfl (by decide))
theorem dL_law_1857 : decode cL_law 1857 = .ok (.iadd, 1) := db_96 (bt_of (i := 1) lb_29 rfl rfl (by decide))
theorem dL_law_1858 : decode cL_law 1858 = .ok (.iaload, 1) := db_46 (bt_of (i := 2) lb_29 rfl rfl (by decide))
theorem dL_law_1859 : decode cL_law 1859 = .ok (.aload_n 0, 1) := db_42 (bt_of (i := 3) lb_29 rfl rfl (by decide))
theorem dL_law_1860 : decode cL_law 1860 = .ok (.iload 4, 2) := db_21 (bt_of (i := 4) lb_29 rfl rfl (by decide)) (bt_of (i := 5) lb_29 rfl rfl (by decide))
theorem dL_law_1862 : decode cL_law 1862 = .ok (.iconst 2, 1) := db_5 (bt_of (i := 6) lb_29 rfl rfl (by decide))
theorem dL_law_1863 : decode cL_law 1863 = .ok (.iadd, 1) := db_96 (bt_of (i := 7) lb_29 rfl rfl (by decide))
theorem dL_law_1864 : decode cL_law 1864 = .ok (.iaload, 1) := db_46 (bt_of (i := 8) lb_29 rfl rfl (by decide))
theorem dL_law_1865 : decode cL_law 1865 = .ok (.aload_n 0, 1) := db_42 (bt_of (i := 9) lb_29 rfl rfl (by decide))
theorem dL_law_1866 : decode cL_law 1866 = .ok (.iload 4, 2) := db_21 (bt_of (i := 10) lb_29 rfl rfl (by decide)) (bt_of (i := 11) lb_29 rfl rfl (by decide))
theorem dL_law_1868 : decode cL_law 1868 = .ok (.iconst 3, 1) := db_6 (bt_of (i := 12) lb_29 rfl rfl (by decide))
theorem dL_law_1869 : decode cL_law 1869 = .ok (.iadd, 1) := db_96 (bt_of (i := 13) lb_29 rfl rfl (by decide))
theorem dL_law_1870 : decode cL_law 1870 = .ok (.iaload, 1) := db_46 (bt_of (i := 14) lb_29 rfl rfl (by decide))
theorem dL_law_1871 : decode cL_law 1871 = .ok (.invokevirtual 254, 3) := db_182 (bt_of (i := 15) lb_29 rfl rfl (by decide)) (bt_of (i := 16) lb_29 rfl rfl (by decide)) (bt_of (i := 17) lb_29 rfl rfl (by decide))
theorem dL_law_1874 : decode cL_law 1874 = .ok (.istore 6, 2) := db_54 (bt_of (i := 18) lb_29 rfl rfl (by decide)) (bt_of (i := 19) lb_29 rfl rfl (by decide))
theorem dL_law_1876 : decode cL_law 1876 = .ok (.aload_n 2, 1) := db_44 (bt_of (i := 20) lb_29 rfl rfl (by decide))
theorem dL_law_1877 : decode cL_law 1877 = .ok (.invokevirtual 179, 3) := db_182 (bt_of (i := 21) lb_29 rfl rfl (by decide)) (bt_of (i := 22) lb_29 rfl rfl (by decide)) (bt_of (i := 23) lb_29 rfl rfl (by decide))
theorem dL_law_1880 : decode cL_law 1880 = .ok (.iload 5, 2) := db_21 (bt_of (i := 24) lb_29 rfl rfl (by decide)) (bt_of (i := 25) lb_29 rfl rfl (by decide))
theorem dL_law_1882 : decode cL_law 1882 = .ok (.if_icmp .eq 5, 3) := db_159 (bt_of (i := 26) lb_29 rfl rfl (by decide)) (bt_of (i := 27) lb_29 rfl rfl (by decide)) (bt_of (i := 28) lb_29 rfl rfl (by decide)) (by decide +kernel)
theorem dL_law_1885 : decode cL_law 1885 = .ok (.iconst 0, 1) := db_3 (bt_of (i := 29) lb_29 rfl rfl (by decide))
theorem dL_law_1886 : decode cL_law 1886 = .ok (.ireturn, 1) := db_172 (bt_of (i := 30) lb_29 rfl rfl (by decide))
theorem dL_law_1887 : decode cL_law 1887 = .ok (.iload 5, 2) := db_21 (bt_of (i := 31) lb_29 rfl rfl (by decide)) (bt_of (i := 32) lb_29 rfl rfl (by decide))
theorem dL_law_1889 : decode cL_law 1889 = .ok (.ifCond .ne 15, 3) := db_154 (bt_of (i := 33) lb_29 rfl rfl (by decide)) (bt_of (i := 34) lb_29 rfl rfl (by decide)) (bt_of (i := 35) lb_29 rfl rfl (by decide)) (by decide +kernel)
theorem dL_law_1892 : decode cL_law 1892 = .ok (.aload_n 3, 1) := db_45 (bt_of (i := 36) lb_29 rfl rfl (by decide))
theorem dL_law_1893 : decode cL_law 1893 = .ok (.iconst 0, 1) := db_3 (bt_of (i := 37) lb_29 rfl rfl (by decide))
theorem dL_law_1894 : decode cL_law 1894 = .ok (.laload, 1) := db_47 (bt_of (i := 38) lb_29 rfl rfl (by decide))
theorem dL_law_1895 : decode cL_law 1895 = .ok (.iload 6, 2) := db_21 (bt_of (i := 39) lb_29 rfl rfl (by decide)) (bt_of (i := 40) lb_29 rfl rfl (by decide))
theorem dL_law_1897 : decode cL_law 1897 = .ok (.i2l, 1) := db_133 (bt_of (i := 41) lb_29 rfl rfl (by decide))
theorem dL_law_1898 : decode cL_law 1898 = .ok (.lcmp, 1) := db_148 (bt_of (i := 42) lb_29 rfl rfl (by decide))
theorem dL_law_1899 : decode cL_law 1899 = .ok (.ifCond .eq 5, 3) := db_153 (bt_of (i := 43) lb_29 rfl rfl (by decide)) (bt_of (i := 44) lb_29 rfl rfl (by decide)) (bt_of (i := 45) lb_29 rfl rfl (by decide)) (by decide +kernel)
theorem dL_law_1902 : decode cL_law 1902 = .ok (.iconst 0, 1) := db_3 (bt_of (i := 46) lb_29 rfl rfl (by decide))
theorem dL_law_1903 : decode cL_law 1903 = .ok (.ireturn, 1) := db_172 (bt_of (i := 47) lb_29 rfl rfl (by decide))
theorem dL_law_1904 : decode cL_law 1904 = .ok (.goto 1643, 3) := db_167 (bt_of (i := 48) lb_29 rfl rfl (by decide)) (bt_of (i := 49) lb_29 rfl rfl (by decide)) (bt_of (i := 50) lb_29 rfl rfl (by decide)) (by decide +kernel)
theorem dL_law_1907 : decode cL_law 1907 = .ok (.aload_n 1, 1) := db_43 (bt_of (i := 51) lb_29 rfl rfl (by decide))
theorem dL_law_1908 : decode cL_law 1908 = .ok (.aload_n 0, 1) := db_42 (bt_of (i := 52) lb_29 rfl rfl (by decide))
theorem dL_law_1909 : decode cL_law 1909 = .ok (.iload 4, 2) := db_21 (bt_of (i := 53) lb_29 rfl rfl (by decide)) (bt_of (i := 54) lb_29 rfl rfl (by decide))
theorem dL_law_1911 : decode cL_law 1911 = .ok (.iconst 1, 1) := db_4 (bt_of (i := 55) lb_29 rfl rfl (by decide))
theorem dL_law_1912 : decode cL_law 1912 = .ok (.iadd, 1) := db_96 (bt_of (i := 56) lb_29 rfl rfl (by decide))
theorem dL_law_1913 : decode cL_law 1913 = .ok (.iaload, 1) := db_46 (bt_of (i := 57) lb_29 rfl rfl (by decide))
theorem dL_law_1914 : decode cL_law 1914 = .ok (.aload_n 0, 1) := db_42 (bt_of (i := 58) lb_29 rfl rfl (by decide))
theorem dL_law_1915 : decode cL_law 1915 = .ok (.iload 4, 2) := db_21 (bt_of (i := 59) lb_29 rfl rfl (by decide)) (bt_of (i := 60) lb_29 rfl rfl (by decide))
theorem dL_law_1917 : decode cL_law 1917 = .ok (.iconst 2, 1) := db_5 (bt_of (i := 61) lb_29 rfl rfl (by decide))
theorem dL_law_1918 : decode cL_law 1918 = .ok (.iadd, 1) := db_96 (bt_of (i := 62) lb_29 rfl rfl (by decide))
theorem dL_law_1919 : decode cL_law 1919 = .ok (.iaload, 1) := db_46 (bt_of (i := 63) lb_29 rfl rfl (by decide))
theorem dL_law_1920 : decode cL_law 1920 = .ok (.aload_n 3, 1) := db_45 (bt_of (i := 0) lb_30 rfl rfl (by decide))
theorem dL_law_1921 : decode cL_law 1921 = .ok (.invokestatic 255, 3) := db_184 (bt_of (i := 1) lb_30 rfl rfl (by decide)) (bt_of (i := 2) lb_30 rfl rfl (by decide)) (bt_of (i := 3) lb_30 rfl rfl (by decide))
theorem dL_law_1924 : decode cL_law 1924 = .ok (.istore 5, 2) := db_54 (bt_of (i := 4) lb_30 rfl rfl (by decide)) (bt_of (i := 5) lb_30 rfl rfl (by decide))
theorem dL_law_1926 : decode cL_law 1926 = .ok (.aload_n 2, 1) := db_44 (bt_of (i := 6) lb_30 rfl rfl (by decide))
theorem dL_law_1927 : decode cL_law 1927 = .ok (.aload_n 0, 1) := db_42 (bt_of (i := 7) lb_30 rfl rfl (by decide))
theorem dL_law_1928 : decode cL_law 1928 = .ok (.iload 4, 2) := db_21 (bt_of (i := 8) lb_30 rfl rfl (by decide)) (bt_of (i := 9) lb_30 rfl rfl (by decide))
theorem dL_law_1930 : decode cL_law 1930 = .ok (.iconst 1, 1) := db_4 (bt_of (i := 10) lb_30 rfl rfl (by decide))
theorem dL_law_1931 : decode cL_law 1931 = .ok (.iadd, 1) := db_96 (bt_of (i := 11) lb_30 rfl rfl (by decide))
theorem dL_law_1932 : decode cL_law 1932 = .ok (.iaload, 1) := db_46 (bt_of (i := 12) lb_30 rfl rfl (by decide))
theorem dL_law_1933 : decode cL_law 1933 = .ok (.aload_n 0, 1) := db_42 (bt_of (i := 13) lb_30 rfl rfl (by decide))
theorem dL_law_1934 : decode cL_law 1934 = .ok (.iload 4, 2) := db_21 (bt_of (i := 14) lb_30 rfl rfl (by decide)) (bt_of (i := 15) lb_30 rfl rfl (by decide))
theorem dL_law_1936 : decode cL_law 1936 = .ok (.iconst 2, 1) := db_5 (bt_of (i := 16) lb_30 rfl rfl (by decide))
theorem dL_law_1937 : decode cL_law 1937 = .ok (.iadd, 1) := db_96 (bt_of (i := 17) lb_30 rfl rfl (by decide))
theorem dL_law_1938 : decode cL_law 1938 = .ok (.iaload, 1) := db_46 (bt_of (i := 18) lb_30 rfl rfl (by decide))
theorem dL_law_1939 : decode cL_law 1939 = .ok (.invokevirtual 257, 3) := db_182 (bt_of (i := 19) lb_30 rfl rfl (by decide)) (bt_of (i := 20) lb_30 rfl rfl (by decide)) (bt_of (i := 21) lb_30 rfl rfl (by decide))
theorem dL_law_1942 : decode cL_law 1942 = .ok (.istore 6, 2) := db_54 (bt_of (i := 22) lb_30 rfl rfl (by decide)) (bt_of (i := 23) lb_30 rfl rfl (by decide))
theorem dL_law_1944 : decode cL_law 1944 = .ok (.aload_n 2, 1) := db_44 (bt_of (i := 24) lb_30 rfl rfl (by decide))
theorem dL_law_1945 : decode cL_law 1945 = .ok (.invokevirtual 179, 3) := db_182 (bt_of (i := 25) lb_30 rfl rfl (by decide)) (bt_of (i := 26) lb_30 rfl rfl (by decide)) (bt_of (i := 27) lb_30 rfl rfl (by decide))
theorem dL_law_1948 : decode cL_law 1948 = .ok (.iload 5, 2) := db_21 (bt_of (i := 28) lb_30 rfl rfl (by decide)) (bt_of (i := 29) lb_30 rfl rfl (by decide))
theorem dL_law_1950 : decode cL_law 1950 = .ok (.if_icmp .eq 5, 3) := db_159 (bt_of (i := 30) lb_30 rfl rfl (by decide)) (bt_of (i := 31) lb_30 rfl rfl (by decide)) (bt_of (i := 32) lb_30 rfl rfl (by decide)) (by decide +kernel)
theorem dL_law_1953 : decode cL_law 1953 = .ok (.iconst 0, 1) := db_3 (bt_of (i := 33) lb_30 rfl rfl (by decide))
theorem dL_law_1954 : decode cL_law 1954 = .ok (.ireturn, 1) := db_172 (bt_of (i := 34) lb_30 rfl rfl (by decide))
theorem dL_law_1955 : decode cL_law 1955 = .ok (.iload 5, 2) := db_21 (bt_of (i := 35) lb_30 rfl rfl (by decide)) (bt_of (i := 36) lb_30 rfl rfl (by decide))
theorem dL_law_1957 : decode cL_law 1957 = .ok (.ifCond .ne 15, 3) := db_154 (bt_of (i := 37) lb_30 rfl rfl (by decide)) (bt_of (i := 38) lb_30 rfl rfl (by decide)) (bt_of (i := 39) lb_30 rfl rfl (by decide)) (by decide +kernel)
theorem dL_law_1960 : decode cL_law 1960 = .ok (.aload_n 3, 1) := db_45 (bt_of (i := 40) lb_30 rfl rfl (by decide))
theorem dL_law_1961 : decode cL_law 1961 = .ok (.iconst 0, 1) := db_3 (bt_of (i := 41) lb_30 rfl rfl (by decide))
theorem dL_law_1962 : decode cL_law 1962 = .ok (.laload, 1) := db_47 (bt_of (i := 42) lb_30 rfl rfl (by decide))
theorem dL_law_1963 : decode cL_law 1963 = .ok (.iload 6, 2) := db_21 (bt_of (i := 43) lb_30 rfl rfl (by decide)) (bt_of (i := 44) lb_30 rfl rfl (by decide))
theorem dL_law_1965 : decode cL_law 1965 = .ok (.i2l, 1) := db_133 (bt_of (i := 45) lb_30 rfl rfl (by decide))
theorem dL_law_1966 : decode cL_law 1966 = .ok (.lcmp, 1) := db_148 (bt_of (i := 46) lb_30 rfl rfl (by decide))
theorem dL_law_1967 : decode cL_law 1967 = .ok (.ifCond .eq 5, 3) := db_153 (bt_of (i := 47) lb_30 rfl rfl (by decide)) (bt_of (i := 48) lb_30 rfl rfl (by decide)) (bt_of (i := 49) lb_30 rfl rfl (by decide)) (by decide +kernel)
theorem dL_law_1970 : decode cL_law 1970 = .ok (.iconst 0, 1) := db_3 (bt_of (i := 50) lb_30 rfl rfl (by decide))
theorem dL_law_1971 : decode cL_law 1971 = .ok (.ireturn, 1) := db_172 (bt_of (i := 51) lb_30 rfl rfl (by decide))
theorem dL_law_1972 : decode cL_law 1972 = .ok (.goto 1575, 3) := db_167 (bt_of (i := 52) lb_30 rfl rfl (by decide)) (bt_of (i := 53) lb_30 rfl rfl (by decide)) (bt_of (i := 54) lb_30 rfl rfl (by decide)) (by decide +kernel)
theorem dL_law_1975 : decode cL_law 1975 = .ok (.aload_n 1, 1) := db_43 (bt_of (i := 55) lb_30 rfl rfl (by decide))
theorem dL_law_1976 : decode cL_law 1976 = .ok (.aload_n 0, 1) := db_42 (bt_of (i := 56) lb_30 rfl rfl (by decide))
theorem dL_law_1977 : decode cL_law 1977 = .ok (.iload 4, 2) := db_21 (bt_of (i := 57) lb_30 rfl rfl (by decide)) (bt_of (i := 58) lb_30 rfl rfl (by decide))
theorem dL_law_1979 : decode cL_law 1979 = .ok (.iconst 1, 1) := db_4 (bt_of (i := 59) lb_30 rfl rfl (by decide))
theorem dL_law_1980 : decode cL_law 1980 = .ok (.iadd, 1) := db_96 (bt_of (i := 60) lb_30 rfl rfl (by decide))
theorem dL_law_1981 : decode cL_law 1981 = .ok (.iaload, 1) := db_46 (bt_of (i := 61) lb_30 rfl rfl (by decide))
theorem dL_law_1982 : decode cL_law 1982 = .ok (.aload_n 0, 1) := db_42 (bt_of (i := 62) lb_30 rfl rfl (by decide))
theorem dL_law_1983 : decode cL_law 1983 = .ok (.iload 4, 2) := db_21 (bt_of (i := 63) lb_30 rfl rfl (by decide)) (bt_of (i := 0) lb_31 rfl rfl (by decide))
theorem dL_law_1985 : decode cL_law 1985 = .ok (.iconst 2, 1) := db_5 (bt_of (i := 1) lb_31 rfl rfl (by decide))
theorem dL_law_1986 : decode cL_law 1986 = .ok (.iadd, 1) := db_96 (bt_of (i := 2) lb_31 rfl rfl (by decide))
theorem dL_law_1987 : decode cL_law 1987 = .ok (.iaload, 1) := db_46 (bt_of (i := 3) lb_31 rfl rfl (by decide))
theorem dL_law_1988 : decode cL_law 1988 = .ok (.aload_n 0, 1) := db_42 (bt_of (i := 4) lb_31 rfl rfl (by decide))
theorem dL_law_1989 : decode cL_law 1989 = .ok (.iload 4, 2) := db_21 (bt_of (i := 5) lb_31 rfl rfl (by decide)) (bt_of (i := 6) lb_31 rfl rfl (by decide))
theorem dL_law_1991 : decode cL_law 1991 = .ok (.iconst 3, 1) := db_6 (bt_of (i := 7) lb_31 rfl rfl (by decide))
theorem dL_law_1992 : decode cL_law 1992 = .ok (.iadd, 1) := db_96 (bt_of (i := 8) lb_31 rfl rfl (by decide))
theorem dL_law_1993 : decode cL_law 1993 = .ok (.iaload, 1) := db_46 (bt_of (i := 9) lb_31 rfl rfl (by decide))
theorem dL_law_1994 : decode cL_law 1994 = .ok (.aload_n 3, 1) := db_45 (bt_of (i := 10) lb_31 rfl rfl (by decide))
theorem dL_law_1995 : decode cL_law 1995 = .ok (.invokestatic 258, 3) := db_184 (bt_of (i := 11) lb_31 rfl rfl (by decide)) (bt_of (i := 12) lb_31 rfl rfl (by decide)) (bt_of (i := 13) lb_31 rfl rfl (by decide))
theorem dL_law_1998 : decode cL_law 1998 = .ok (.istore 5, 2) := db_54 (bt_of (i := 14) lb_31 rfl rfl (by decide)) (bt_of (i := 15) lb_31 rfl rfl (by decide))
theorem dL_law_2000 : decode cL_law 2000 = .ok (.aload_n 2, 1) := db_44 (bt_of (i := 16) lb_31 rfl rfl (by decide))
theorem dL_law_2001 : decode cL_law 2001 = .ok (.aload_n 0, 1) := db_42 (bt_of (i := 17) lb_31 rfl rfl (by decide))
theorem dL_law_2002 : decode cL_law 2002 = .ok (.iload 4, 2) := db_21 (bt_of (i := 18) lb_31 rfl rfl (by decide)) (bt_of (i := 19) lb_31 rfl rfl (by decide))
theorem dL_law_2004 : decode cL_law 2004 = .ok (.iconst 1, 1) := db_4 (bt_of (i := 20) lb_31 rfl rfl (by decide))
theorem dL_law_2005 : decode cL_law 2005 = .ok (.iadd, 1) := db_96 (bt_of (i := 21) lb_31 rfl rfl (by decide))
theorem dL_law_2006 : decode cL_law 2006 = .ok (.iaload, 1) := db_46 (bt_of (i := 22) lb_31 rfl rfl (by decide))
theorem dL_law_2007 : decode cL_law 2007 = .ok (.aload_n 0, 1) := db_42 (bt_of (i := 23) lb_31 rfl rfl (by decide))
theorem dL_law_2008 : decode cL_law 2008 = .ok (.iload 4, 2) := db_21 (bt_of (i := 24) lb_31 rfl rfl (by decide)) (bt_of (i := 25) lb_31 rfl rfl (by decide))
theorem dL_law_2010 : decode cL_law 2010 = .ok (.iconst 2, 1) := db_5 (bt_of (i := 26) lb_31 rfl rfl (by decide))
theorem dL_law_2011 : decode cL_law 2011 = .ok (.iadd, 1) := db_96 (bt_of (i := 27) lb_31 rfl rfl (by decide))
theorem dL_law_2012 : decode cL_law 2012 = .ok (.iaload, 1) := db_46 (bt_of (i := 28) lb_31 rfl rfl (by decide))
theorem dL_law_2013 : decode cL_law 2013 = .ok (.aload_n 0, 1) := db_42 (bt_of (i := 29) lb_31 rfl rfl (by decide))
theorem dL_law_2014 : decode cL_law 2014 = .ok (.iload 4, 2) := db_21 (bt_of (i := 30) lb_31 rfl rfl (by decide)) (bt_of (i := 31) lb_31 rfl rfl (by decide))
theorem dL_law_2016 : decode cL_law 2016 = .ok (.iconst 3, 1) := db_6 (bt_of (i := 32) lb_31 rfl rfl (by decide))
theorem dL_law_2017 : decode cL_law 2017 = .ok (.iadd, 1) := db_96 (bt_of (i := 33) lb_31 rfl rfl (by decide))
theorem dL_law_2018 : decode cL_law 2018 = .ok (.iaload, 1) := db_46 (bt_of (i := 34) lb_31 rfl rfl (by decide))
theorem dL_law_2019 : decode cL_law 2019 = .ok (.invokevirtual 260, 3) := db_182 (bt_of (i := 35) lb_31 rfl rfl (by decide)) (bt_of (i := 36) lb_31 rfl rfl (by decide)) (bt_of (i := 37) lb_31 rfl rfl (by decide))
theorem dL_law_2022 : decode cL_law 2022 = .ok (.istore 6, 2) := db_54 (bt_of (i := 38) lb_31 rfl rfl (by decide)) (bt_of (i := 39) lb_31 rfl rfl (by decide))
theorem dL_law_2024 : decode cL_law 2024 = .ok (.aload_n 2, 1) := db_44 (bt_of (i := 40) lb_31 rfl rfl (by decide))
theorem dL_law_2025 : decode cL_law 2025 = .ok (.invokevirtual 179, 3) := db_182 (bt_of (i := 41) lb_31 rfl rfl (by decide)) (bt_of (i := 42) lb_31 rfl rfl (by decide)) (bt_of (i := 43) lb_31 rfl rfl (by decide))
theorem dL_law_2028 : decode cL_law 2028 = .ok (.iload 5, 2) := db_21 (bt_of (i := 44) lb_31 rfl rfl (by decide)) (bt_of (i := 45) lb_31 rfl rfl (by decide))
theorem dL_law_2030 : decode cL_law 2030 = .ok (.if_icmp .eq 5, 3) := db_159 (bt_of (i := 46) lb_31 rfl rfl (by decide)) (bt_of (i := 47) lb_31 rfl rfl (by decide)) (bt_of (i := 48) lb_31 rfl rfl (by decide)) (by decide +kernel)
theorem dL_law_2033 : decode cL_law 2033 = .ok (.iconst 0, 1) := db_3 (bt_of (i := 49) lb_31 rfl rfl (by decide))
theorem dL_law_2034 : decode cL_law 2034 = .ok (.ireturn, 1) := db_172 (bt_of (i := 50) lb_31 rfl rfl (by decide))
theorem dL_law_2035 : decode cL_law 2035 = .ok (.iload 5, 2) := db_21 (bt_of (i := 51) lb_31 rfl rfl (by decide)) (bt_of (i := 52) lb_31 rfl rfl (by decide))
theorem dL_law_2037 : decode cL_law 2037 = .ok (.ifCond .ne 15, 3) := db_154 (bt_of (i := 53) lb_31 rfl rfl (by decide)) (bt_of (i := 54) lb_31 rfl rfl (by decide)) (bt_of (i := 55) lb_31 rfl rfl (by decide)) (by decide +kernel)
theorem dL_law_2040 : decode cL_law 2040 = .ok (.aload_n 3, 1) := db_45 (bt_of (i := 56) lb_31 rfl rfl (by decide))
theorem dL_law_2041 : decode cL_law 2041 = .ok (.iconst 0, 1) := db_3 (bt_of (i := 57) lb_31 rfl rfl (by decide))
theorem dL_law_2042 : decode cL_law 2042 = .ok (.laload, 1) := db_47 (bt_of (i := 58) lb_31 rfl rfl (by decide))
theorem dL_law_2043 : decode cL_law 2043 = .ok (.iload 6, 2) := db_21 (bt_of (i := 59) lb_31 rfl rfl (by decide)) (bt_of (i := 60) lb_31 rfl rfl (by decide))
theorem dL_law_2045 : decode cL_law 2045 = .ok (.i2l, 1) := db_133 (bt_of (i := 61) lb_31 rfl rfl (by decide))
theorem dL_law_2046 : decode cL_law 2046 = .ok (.lcmp, 1) := db_148 (bt_of (i := 62) lb_31 rfl rfl (by decide))
theorem dL_law_2047 : decode cL_law 2047 = .ok (.ifCond .eq 5, 3) := db_153 (bt_of (i := 63) lb_31 rfl rfl (by decide)) (bt_of (i := 0) lb_32 rfl rfl (by decide)) (bt_of (i := 1) lb_32 rfl rfl (by decide)) (by decide +kernel)
theorem dL_law_2050 : decode cL_law 2050 = .ok (.iconst 0, 1) := db_3 (bt_of (i := 2) lb_32 rfl rfl (by decide))
theorem dL_law_2051 : decode cL_law 2051 = .ok (.ireturn, 1) := db_172 (bt_of (i := 3) lb_32 rfl rfl (by decide))
theorem dL_law_2052 : decode cL_law 2052 = .ok (.goto 1495, 3) := db_167 (bt_of (i := 4) lb_32 rfl rfl (by decide)) (bt_of (i := 5) lb_32 rfl rfl (by decide)) (bt_of (i := 6) lb_32 rfl rfl (by decide)) (by decide +kernel)
theorem dL_law_2055 : decode cL_law 2055 = .ok (.aload_n 1, 1) := db_43 (bt_of (i := 7) lb_32 rfl rfl (by decide))
theorem dL_law_2056 : decode cL_law 2056 = .ok (.aload_n 0, 1) := db_42 (bt_of (i := 8) lb_32 rfl rfl (by decide))
theorem dL_law_2057 : decode cL_law 2057 = .ok (.iload 4, 2) := db_21 (bt_of (i := 9) lb_32 rfl rfl (by decide)) (bt_of (i := 10) lb_32 rfl rfl (by decide))
theorem dL_law_2059 : decode cL_law 2059 = .ok (.iconst 1, 1) := db_4 (bt_of (i := 11) lb_32 rfl rfl (by decide))
theorem dL_law_2060 : decode cL_law 2060 = .ok (.iadd, 1) := db_96 (bt_of (i := 12) lb_32 rfl rfl (by decide))
theorem dL_law_2061 : decode cL_law 2061 = .ok (.iaload, 1) := db_46 (bt_of (i := 13) lb_32 rfl rfl (by decide))
theorem dL_law_2062 : decode cL_law 2062 = .ok (.aload_n 0, 1) := db_42 (bt_of (i := 14) lb_32 rfl rfl (by decide))
theorem dL_law_2063 : decode cL_law 2063 = .ok (.iload 4, 2) := db_21 (bt_of (i := 15) lb_32 rfl rfl (by decide)) (bt_of (i := 16) lb_32 rfl rfl (by decide))
theorem dL_law_2065 : decode cL_law 2065 = .ok (.iconst 2, 1) := db_5 (bt_of (i := 17) lb_32 rfl rfl (by decide))
theorem dL_law_2066 : decode cL_law 2066 = .ok (.iadd, 1) := db_96 (bt_of (i := 18) lb_32 rfl rfl (by decide))
theorem dL_law_2067 : decode cL_law 2067 = .ok (.iaload, 1) := db_46 (bt_of (i := 19) lb_32 rfl rfl (by decide))
theorem dL_law_2068 : decode cL_law 2068 = .ok (.aload_n 0, 1) := db_42 (bt_of (i := 20) lb_32 rfl rfl (by decide))
theorem dL_law_2069 : decode cL_law 2069 = .ok (.iload 4, 2) := db_21 (bt_of (i := 21) lb_32 rfl rfl (by decide)) (bt_of (i := 22) lb_32 rfl rfl (by decide))
theorem dL_law_2071 : decode cL_law 2071 = .ok (.iconst 3, 1) := db_6 (bt_of (i := 23) lb_32 rfl rfl (by decide))
theorem dL_law_2072 : decode cL_law 2072 = .ok (.iadd, 1) := db_96 (bt_of (i := 24) lb_32 rfl rfl (by decide))
theorem dL_law_2073 : decode cL_law 2073 = .ok (.iaload, 1) := db_46 (bt_of (i := 25) lb_32 rfl rfl (by decide))
theorem dL_law_2074 : decode cL_law 2074 = .ok (.ifCond .eq 7, 3) := db_153 (bt_of (i := 26) lb_32 rfl rfl (by decide)) (bt_of (i := 27) lb_32 rfl rfl (by decide)) (bt_of (i := 28) lb_32 rfl rfl (by decide)) (by decide +kernel)
theorem dL_law_2077 : decode cL_law 2077 = .ok (.iconst 1, 1) := db_4 (bt_of (i := 29) lb_32 rfl rfl (by decide))
theorem dL_law_2078 : decode cL_law 2078 = .ok (.goto 4, 3) := db_167 (bt_of (i := 30) lb_32 rfl rfl (by decide)) (bt_of (i := 31) lb_32 rfl rfl (by decide)) (bt_of (i := 32) lb_32 rfl rfl (by decide)) (by decide +kernel)
theorem dL_law_2081 : decode cL_law 2081 = .ok (.iconst 0, 1) := db_3 (bt_of (i := 33) lb_32 rfl rfl (by decide))
theorem dL_law_2082 : decode cL_law 2082 = .ok (.aload_n 3, 1) := db_45 (bt_of (i := 34) lb_32 rfl rfl (by decide))
theorem dL_law_2083 : decode cL_law 2083 = .ok (.invokestatic 261, 3) := db_184 (bt_of (i := 35) lb_32 rfl rfl (by decide)) (bt_of (i := 36) lb_32 rfl rfl (by decide)) (bt_of (i := 37) lb_32 rfl rfl (by decide))
theorem dL_law_2086 : decode cL_law 2086 = .ok (.istore 5, 2) := db_54 (bt_of (i := 38) lb_32 rfl rfl (by decide)) (bt_of (i := 39) lb_32 rfl rfl (by decide))
theorem dL_law_2088 : decode cL_law 2088 = .ok (.aload_n 2, 1) := db_44 (bt_of (i := 40) lb_32 rfl rfl (by decide))
theorem dL_law_2089 : decode cL_law 2089 = .ok (.aload_n 0, 1) := db_42 (bt_of (i := 41) lb_32 rfl rfl (by decide))
theorem dL_law_2090 : decode cL_law 2090 = .ok (.iload 4, 2) := db_21 (bt_of (i := 42) lb_32 rfl rfl (by decide)) (bt_of (i := 43) lb_32 rfl rfl (by decide))
theorem dL_law_2092 : decode cL_law 2092 = .ok (.iconst 1, 1) := db_4 (bt_of (i := 44) lb_32 rfl rfl (by decide))
theorem dL_law_2093 : decode cL_law 2093 = .ok (.iadd, 1) := db_96 (bt_of (i := 45) lb_32 rfl rfl (by decide))
theorem dL_law_2094 : decode cL_law 2094 = .ok (.iaload, 1) := db_46 (bt_of (i := 46) lb_32 rfl rfl (by decide))
theorem dL_law_2095 : decode cL_law 2095 = .ok (.aload_n 0, 1) := db_42 (bt_of (i := 47) lb_32 rfl rfl (by decide))
theorem dL_law_2096 : decode cL_law 2096 = .ok (.iload 4, 2) := db_21 (bt_of (i := 48) lb_32 rfl rfl (by decide)) (bt_of (i := 49) lb_32 rfl rfl (by decide))
theorem dL_law_2098 : decode cL_law 2098 = .ok (.iconst 2, 1) := db_5 (bt_of (i := 50) lb_32 rfl rfl (by decide))
theorem dL_law_2099 : decode cL_law 2099 = .ok (.iadd, 1) := db_96 (bt_of (i := 51) lb_32 rfl rfl (by decide))
theorem dL_law_2100 : decode cL_law 2100 = .ok (.iaload, 1) := db_46 (bt_of (i := 52) lb_32 rfl rfl (by decide))
theorem dL_law_2101 : decode cL_law 2101 = .ok (.aload_n 0, 1) := db_42 (bt_of (i := 53) lb_32 rfl rfl (by decide))
theorem dL_law_2102 : decode cL_law 2102 = .ok (.iload 4, 2) := db_21 (bt_of (i := 54) lb_32 rfl rfl (by decide)) (bt_of (i := 55) lb_32 rfl rfl (by decide))
theorem dL_law_2104 : decode cL_law 2104 = .ok (.iconst 3, 1) := db_6 (bt_of (i := 56) lb_32 rfl rfl (by decide))
theorem dL_law_2105 : decode cL_law 2105 = .ok (.iadd, 1) := db_96 (bt_of (i := 57) lb_32 rfl rfl (by decide))
theorem dL_law_2106 : decode cL_law 2106 = .ok (.iaload, 1) := db_46 (bt_of (i := 58) lb_32 rfl rfl (by decide))
theorem dL_law_2107 : decode cL_law 2107 = .ok (.ifCond .eq 7, 3) := db_153 (bt_of (i := 59) lb_32 rfl rfl (by decide)) (bt_of (i := 60) lb_32 rfl rfl (by decide)) (bt_of (i := 61) lb_32 rfl rfl (by decide)) (by decide +kernel)
theorem dL_law_2110 : decode cL_law 2110 = .ok (.iconst 1, 1) := db_4 (bt_of (i := 62) lb_32 rfl rfl (by decide))
theorem dL_law_2111 : decode cL_law 2111 = .ok (.goto 4, 3) := db_167 (bt_of (i := 63) lb_32 rfl rfl (by decide)) (bt_of (i := 0) lb_33 rfl rfl (by decide)) (bt_of (i := 1) lb_33 rfl rfl (by decide)) (by decide +kernel)
theorem dL_law_2114 : decode cL_law 2114 = .ok (.iconst 0, 1) := db_3 (bt_of (i := 2) lb_33 rfl rfl (by decide))
theorem dL_law_2115 : decode cL_law 2115 = .ok (.invokevirtual 264, 3) := db_182 (bt_of (i := 3) lb_33 rfl rfl (by decide)) (bt_of (i := 4) lb_33 rfl rfl (by decide)) (bt_of (i := 5) lb_33 rfl rfl (by decide))
theorem dL_law_2118 : decode cL_law 2118 = .ok (.istore 6, 2) := db_54 (bt_of (i := 6) lb_33 rfl rfl (by decide)) (bt_of (i := 7) lb_33 rfl rfl (by decide))
theorem dL_law_2120 : decode cL_law 2120 = .ok (.aload_n 2, 1) := db_44 (bt_of (i := 8) lb_33 rfl rfl (by decide))
theorem dL_law_2121 : decode cL_law 2121 = .ok (.invokevirtual 179, 3) := db_182 (bt_of (i := 9) lb_33 rfl rfl (by decide)) (bt_of (i := 10) lb_33 rfl rfl (by decide)) (bt_of (i := 11) lb_33 rfl rfl (by decide))
theorem dL_law_2124 : decode cL_law 2124 = .ok (.iload 5, 2) := db_21 (bt_of (i := 12) lb_33 rfl rfl (by decide)) (bt_of (i := 13) lb_33 rfl rfl (by decide))
theorem dL_law_2126 : decode cL_law 2126 = .ok (.if_icmp .eq 5, 3) := db_159 (bt_of (i := 14) lb_33 rfl rfl (by decide)) (bt_of (i := 15) lb_33 rfl rfl (by decide)) (bt_of (i := 16) lb_33 rfl rfl (by decide)) (by decide +kernel)
theorem dL_law_2129 : decode cL_law 2129 = .ok (.iconst 0, 1) := db_3 (bt_of (i := 17) lb_33 rfl rfl (by decide))
theorem dL_law_2130 : decode cL_law 2130 = .ok (.ireturn, 1) := db_172 (bt_of (i := 18) lb_33 rfl rfl (by decide))
theorem dL_law_2131 : decode cL_law 2131 = .ok (.iload 5, 2) := db_21 (bt_of (i := 19) lb_33 rfl rfl (by decide)) (bt_of (i := 20) lb_33 rfl rfl (by decide))
theorem dL_law_2133 : decode cL_law 2133 = .ok (.ifCond .ne 15, 3) := db_154 (bt_of (i := 21) lb_33 rfl rfl (by decide)) (bt_of (i := 22) lb_33 rfl rfl (by decide)) (bt_of (i := 23) lb_33 rfl rfl (by decide)) (by decide +kernel)
theorem dL_law_2136 : decode cL_law 2136 = .ok (.aload_n 3, 1) := db_45 (bt_of (i := 24) lb_33 rfl rfl (by decide))
theorem dL_law_2137 : decode cL_law 2137 = .ok (.iconst 0, 1) := db_3 (bt_of (i := 25) lb_33 rfl rfl (by decide))
theorem dL_law_2138 : decode cL_law 2138 = .ok (.laload, 1) := db_47 (bt_of (i := 26) lb_33 rfl rfl (by decide))
theorem dL_law_2139 : decode cL_law 2139 = .ok (.iload 6, 2) := db_21 (bt_of (i := 27) lb_33 rfl rfl (by decide)) (bt_of (i := 28) lb_33 rfl rfl (by decide))
theorem dL_law_2141 : decode cL_law 2141 = .ok (.i2l, 1) := db_133 (bt_of (i := 29) lb_33 rfl rfl (by decide))
theorem dL_law_2142 : decode cL_law 2142 = .ok (.lcmp, 1) := db_148 (bt_of (i := 30) lb_33 rfl rfl (by decide))
theorem dL_law_2143 : decode cL_law 2143 = .ok (.ifCond .eq 5, 3) := db_153 (bt_of (i := 31) lb_33 rfl rfl (by decide)) (bt_of (i := 32) lb_33 rfl rfl (by decide)) (bt_of (i := 33) lb_33 rfl rfl (by decide)) (by decide +kernel)
theorem dL_law_2146 : decode cL_law 2146 = .ok (.iconst 0, 1) := db_3 (bt_of (i := 34) lb_33 rfl rfl (by decide))
theorem dL_law_2147 : decode cL_law 2147 = .ok (.ireturn, 1) := db_172 (bt_of (i := 35) lb_33 rfl rfl (by decide))
theorem dL_law_2148 : decode cL_law 2148 = .ok (.goto 1399, 3) := db_167 (bt_of (i := 36) lb_33 rfl rfl (by decide)) (bt_of (i := 37) lb_33 rfl rfl (by decide)) (bt_of (i := 38) lb_33 rfl rfl (by decide)) (by decide +kernel)
theorem dL_law_2151 : decode cL_law 2151 = .ok (.aload_n 1, 1) := db_43 (bt_of (i := 39) lb_33 rfl rfl (by decide))
theorem dL_law_2152 : decode cL_law 2152 = .ok (.aload_n 0, 1) := db_42 (bt_of (i := 40) lb_33 rfl rfl (by decide))
theorem dL_law_2153 : decode cL_law 2153 = .ok (.iload 4, 2) := db_21 (bt_of (i := 41) lb_33 rfl rfl (by decide)) (bt_of (i := 42) lb_33 rfl rfl (by decide))
theorem dL_law_2155 : decode cL_law 2155 = .ok (.iconst 1, 1) := db_4 (bt_of (i := 43) lb_33 rfl rfl (by decide))
theorem dL_law_2156 : decode cL_law 2156 = .ok (.iadd, 1) := db_96 (bt_of (i := 44) lb_33 rfl rfl (by decide))
theorem dL_law_2157 : decode cL_law 2157 = .ok (.iaload, 1) := db_46 (bt_of (i := 45) lb_33 rfl rfl (by decide))
theorem dL_law_2158 : decode cL_law 2158 = .ok (.aload_n 0, 1) := db_42 (bt_of (i := 46) lb_33 rfl rfl (by decide))
theorem dL_law_2159 : decode cL_law 2159 = .ok (.iload 4, 2) := db_21 (bt_of (i := 47) lb_33 rfl rfl (by decide)) (bt_of (i := 48) lb_33 rfl rfl (by decide))
theorem dL_law_2161 : decode cL_law 2161 = .ok (.iconst 2, 1) := db_5 (bt_of (i := 49) lb_33 rfl rfl (by decide))
theorem dL_law_2162 : decode cL_law 2162 = .ok (.iadd, 1) := db_96 (bt_of (i := 50) lb_33 rfl rfl (by decide))
theorem dL_law_2163 : decode cL_law 2163 = .ok (.iaload, 1) := db_46 (bt_of (i := 51) lb_33 rfl rfl (by decide))
theorem dL_law_2164 : decode cL_law 2164 = .ok (.aload_n 0, 1) := db_42 (bt_of (i := 52) lb_33 rfl rfl (by decide))
theorem dL_law_2165 : decode cL_law 2165 = .ok (.iload 4, 2) := db_21 (bt_of (i := 53) lb_33 rfl rfl (by decide)) (bt_of (i := 54) lb_33 rfl rfl (by decide))
theorem dL_law_2167 : decode cL_law 2167 = .ok (.iconst 3, 1) := db_6 (bt_of (i := 55) lb_33 rfl rfl (by decide))
theorem dL_law_2168 : decode cL_law 2168 = .ok (.iadd, 1) := db_96 (bt_of (i := 56) lb_33 rfl rfl (by decide))
theorem dL_law_2169 : decode cL_law 2169 = .ok (.iaload, 1) := db_46 (bt_of (i := 57) lb_33 rfl rfl (by decide))
theorem dL_law_2170 : decode cL_law 2170 = .ok (.aload_n 0, 1) := db_42 (bt_of (i := 58) lb_33 rfl rfl (by decide))
theorem dL_law_2171 : decode cL_law 2171 = .ok (.iload 4, 2) := db_21 (bt_of (i := 59) lb_33 rfl rfl (by decide)) (bt_of (i := 60) lb_33 rfl rfl (by decide))
theorem dL_law_2173 : decode cL_law 2173 = .ok (.iconst 4, 1) := db_7 (bt_of (i := 61) lb_33 rfl rfl (by decide))
theorem dL_law_2174 : decode cL_law 2174 = .ok (.iadd, 1) := db_96 (bt_of (i := 62) lb_33 rfl rfl (by decide))
theorem dL_law_2175 : decode cL_law 2175 = .ok (.iaload, 1) := db_46 (bt_of (i := 63) lb_33 rfl rfl (by decide))
theorem dL_law_2176 : decode cL_law 2176 = .ok (.aload_n 3, 1) := db_45 (bt_of (i := 0) lb_34 rfl rfl (by decide))
theorem dL_law_2177 : decode cL_law 2177 = .ok (.invokestatic 265, 3) := db_184 (bt_of (i := 1) lb_34 rfl rfl (by decide)) (bt_of (i := 2) lb_34 rfl rfl (by decide)) (bt_of (i := 3) lb_34 rfl rfl (by decide))
theorem dL_law_2180 : decode cL_law 2180 = .ok (.istore 5, 2) := db_54 (bt_of (i := 4) lb_34 rfl rfl (by decide)) (bt_of (i := 5) lb_34 rfl rfl (by decide))
theorem dL_law_2182 : decode cL_law 2182 = .ok (.aload_n 2, 1) := db_44 (bt_of (i := 6) lb_34 rfl rfl (by decide))
theorem dL_law_2183 : decode cL_law 2183 = .ok (.aload_n 0, 1) := db_42 (bt_of (i := 7) lb_34 rfl rfl (by decide))
theorem dL_law_2184 : decode cL_law 2184 = .ok (.iload 4, 2) := db_21 (bt_of (i := 8) lb_34 rfl rfl (by decide)) (bt_of (i := 9) lb_34 rfl rfl (by decide))
theorem dL_law_2186 : decode cL_law 2186 = .ok (.iconst 1, 1) := db_4 (bt_of (i := 10) lb_34 rfl rfl (by decide))
theorem dL_law_2187 : decode cL_law 2187 = .ok (.iadd, 1) := db_96 (bt_of (i := 11) lb_34 rfl rfl (by decide))
theorem dL_law_2188 : decode cL_law 2188 = .ok (.iaload, 1) := db_46 (bt_of (i := 12) lb_34 rfl rfl (by decide))
theorem dL_law_2189 : decode cL_law 2189 = .ok (.aload_n 0, 1) := db_42 (bt_of (i := 13) lb_34 rfl rfl (by decide))
theorem dL_law_2190 : decode cL_law 2190 = .ok (.iload 4, 2) := db_21 (bt_of (i := 14) lb_34 rfl rfl (by decide)) (bt_of (i := 15) lb_34 rfl rfl (by decide))
theorem dL_law_2192 : decode cL_law 2192 = .ok (.iconst 2, 1) := db_5 (bt_of (i := 16) lb_34 rfl rfl (by decide))
theorem dL_law_2193 : decode cL_law 2193 = .ok (.iadd, 1) := db_96 (bt_of (i := 17) lb_34 rfl rfl (by decide))
theorem dL_law_2194 : decode cL_law 2194 = .ok (.iaload, 1) := db_46 (bt_of (i := 18) lb_34 rfl rfl (by decide))
theorem dL_law_2195 : decode cL_law 2195 = .ok (.aload_n 0, 1) := db_42 (bt_of (i := 19) lb_34 rfl rfl (by decide))
theorem dL_law_2196 : decode cL_law 2196 = .ok (.iload 4, 2) := db_21 (bt_of (i := 20) lb_34 rfl rfl (by decide)) (bt_of (i := 21) lb_34 rfl rfl (by decide))
theorem dL_law_2198 : decode cL_law 2198 = .ok (.iconst 3, 1) := db_6 (bt_of (i := 22) lb_34 rfl rfl (by decide))
theorem dL_law_2199 : decode cL_law 2199 = .ok (.iadd, 1) := db_96 (bt_of (i := 23) lb_34 rfl rfl (by decide))
theorem dL_law_2200 : decode cL_law 2200 = .ok (.iaload, 1) := db_46 (bt_of (i := 24) lb_34 rfl rfl (by decide))
theorem dL_law_2201 : decode cL_law 2201 = .ok (.aload_n 0, 1) := db_42 (bt_of (i := 25) lb_34 rfl rfl (by decide))
theorem dL_law_2202 : decode cL_law 2202 = .ok (.iload 4, 2) := db_21 (bt_of (i := 26) lb_34 rfl rfl (by decide)) (bt_of (i := 27) lb_34 rfl rfl (by decide))
theorem dL_law_2204 : decode cL_law 2204 = .ok (.iconst 4, 1) := db_7 (bt_of (i := 28) lb_34 rfl rfl (by decide))
theorem dL_law_2205 : decode cL_law 2205 = .ok (.iadd, 1) := db_96 (bt_of (i := 29) lb_34 rfl rfl (by decide))
theorem dL_law_2206 : decode cL_law 2206 = .ok (.iaload, 1) := db_46 (bt_of (i := 30) lb_34 rfl rfl (by decide))
theorem dL_law_2207 : decode cL_law 2207 = .ok (.invokevirtual 268, 3) := db_182 (bt_of (i := 31) lb_34 rfl rfl (by decide)) (bt_of (i := 32) lb_34 rfl rfl (by decide)) (bt_of (i := 33) lb_34 rfl rfl (by decide))
theorem dL_law_2210 : decode cL_law 2210 = .ok (.istore 6, 2) := db_54 (bt_of (i := 34) lb_34 rfl rfl (by decide)) (bt_of (i := 35) lb_34 rfl rfl (by decide))
theorem dL_law_2212 : decode cL_law 2212 = .ok (.aload_n 2, 1) := db_44 (bt_of (i := 36) lb_34 rfl rfl (by decide))
theorem dL_law_2213 : decode cL_law 2213 = .ok (.invokevirtual 179, 3) := db_182 (bt_of (i := 37) lb_34 rfl rfl (by decide)) (bt_of (i := 38) lb_34 rfl rfl (by decide)) (bt_of (i := 39) lb_34 rfl rfl (by decide))
theorem dL_law_2216 : decode cL_law 2216 = .ok (.iload 5, 2) := db_21 (bt_of (i := 40) lb_34 rfl rfl (by decide)) (bt_of (i := 41) lb_34 rfl rfl (by decide))
theorem dL_law_2218 : decode cL_law 2218 = .ok (.if_icmp .eq 5, 3) := db_159 (bt_of (i := 42) lb_34 rfl rfl (by decide)) (bt_of (i := 43) lb_34 rfl rfl (by decide)) (bt_of (i := 44) lb_34 rfl rfl (by decide)) (by decide +kernel)
theorem dL_law_2221 : decode cL_law 2221 = .ok (.iconst 0, 1) := db_3 (bt_of (i := 45) lb_34 rfl rfl (by decide))
theorem dL_law_2222 : decode cL_law 2222 = .ok (.ireturn, 1) := db_172 (bt_of (i := 46) lb_34 rfl rfl (by decide))
theorem dL_law_2223 : decode cL_law 2223 = .ok (.iload 5, 2) := db_21 (bt_of (i := 47) lb_34 rfl rfl (by decide)) (bt_of (i := 48) lb_34 rfl rfl (by decide))
theorem dL_law_2225 : decode cL_law 2225 = .ok (.ifCond .ne 15, 3) := db_154 (bt_of (i := 49) lb_34 rfl rfl (by decide)) (bt_of (i := 50) lb_34 rfl rfl (by decide)) (bt_of (i := 51) lb_34 rfl rfl (by decide)) (by decide +kernel)
theorem dL_law_2228 : decode cL_law 2228 = .ok (.aload_n 3, 1) := db_45 (bt_of (i := 52) lb_34 rfl rfl (by decide))
theorem dL_law_2229 : decode cL_law 2229 = .ok (.iconst 0, 1) := db_3 (bt_of (i := 53) lb_34 rfl rfl (by decide))
theorem dL_law_2230 : decode cL_law 2230 = .ok (.laload, 1) := db_47 (bt_of (i := 54) lb_34 rfl rfl (by decide))
theorem dL_law_2231 : decode cL_law 2231 = .ok (.iload 6, 2) := db_21 (bt_of (i := 55) lb_34 rfl rfl (by decide)) (bt_of (i := 56) lb_34 rfl rfl (by decide))
theorem dL_law_2233 : decode cL_law 2233 = .ok (.i2l, 1) := db_133 (bt_of (i := 57) lb_34 rfl rfl (by decide))
theorem dL_law_2234 : decode cL_law 2234 = .ok (.lcmp, 1) := db_148 (bt_of (i := 58) lb_34 rfl rfl (by decide))
theorem dL_law_2235 : decode cL_law 2235 = .ok (.ifCond .eq 5, 3) := db_153 (bt_of (i := 59) lb_34 rfl rfl (by decide)) (bt_of (i := 60) lb_34 rfl rfl (by decide)) (bt_of (i := 61) lb_34 rfl rfl (by decide)) (by decide +kernel)
theorem dL_law_2238 : decode cL_law 2238 = .ok (.iconst 0, 1) := db_3 (bt_of (i := 62) lb_34 rfl rfl (by decide))
theorem dL_law_2239 : decode cL_law 2239 = .ok (.ireturn, 1) := db_172 (bt_of (i := 63) lb_34 rfl rfl (by decide))
theorem dL_law_2240 : decode cL_law 2240 = .ok (.goto 1307, 3) := db_167 (bt_of (i := 0) lb_35 rfl rfl (by decide)) (bt_of (i := 1) lb_35 rfl rfl (by decide)) (bt_of (i := 2) lb_35 rfl rfl (by decide)) (by decide +kernel)
theorem dL_law_2243 : decode cL_law 2243 = .ok (.aload_n 1, 1) := db_43 (bt_of (i := 3) lb_35 rfl rfl (by decide))
theorem dL_law_2244 : decode cL_law 2244 = .ok (.aload_n 0, 1) := db_42 (bt_of (i := 4) lb_35 rfl rfl (by decide))
theorem dL_law_2245 : decode cL_law 2245 = .ok (.iload 4, 2) := db_21 (bt_of (i := 5) lb_35 rfl rfl (by decide)) (bt_of (i := 6) lb_35 rfl rfl (by decide))
theorem dL_law_2247 : decode cL_law 2247 = .ok (.iconst 1, 1) := db_4 (bt_of (i := 7) lb_35 rfl rfl (by decide))
theorem dL_law_2248 : decode cL_law 2248 = .ok (.iadd, 1) := db_96 (bt_of (i := 8) lb_35 rfl rfl (by decide))
theorem dL_law_2249 : decode cL_law 2249 = .ok (.iaload, 1) := db_46 (bt_of (i := 9) lb_35 rfl rfl (by decide))
theorem dL_law_2250 : decode cL_law 2250 = .ok (.aload_n 0, 1) := db_42 (bt_of (i := 10) lb_35 rfl rfl (by decide))
theorem dL_law_2251 : decode cL_law 2251 = .ok (.iload 4, 2) := db_21 (bt_of (i := 11) lb_35 rfl rfl (by decide)) (bt_of (i := 12) lb_35 rfl rfl (by decide))
theorem dL_law_2253 : decode cL_law 2253 = .ok (.iconst 2, 1) := db_5 (bt_of (i := 13) lb_35 rfl rfl (by decide))
theorem dL_law_2254 : decode cL_law 2254 = .ok (.iadd, 1) := db_96 (bt_of (i := 14) lb_35 rfl rfl (by decide))
theorem dL_law_2255 : decode cL_law 2255 = .ok (.iaload, 1) := db_46 (bt_of (i := 15) lb_35 rfl rfl (by decide))
theorem dL_law_2256 : decode cL_law 2256 = .ok (.aload_n 3, 1) := db_45 (bt_of (i := 16) lb_35 rfl rfl (by decide))
theorem dL_law_2257 : decode cL_law 2257 = .ok (.invokestatic 269, 3) := db_184 (bt_of (i := 17) lb_35 rfl rfl (by decide)) (bt_of (i := 18) lb_35 rfl rfl (by decide)) (bt_of (i := 19) lb_35 rfl rfl (by decide))
theorem dL_law_2260 : decode cL_law 2260 = .ok (.istore 5, 2) := db_54 (bt_of (i := 20) lb_35 rfl rfl (by decide)) (bt_of (i := 21) lb_35 rfl rfl (by decide))
theorem dL_law_2262 : decode cL_law 2262 = .ok (.aload_n 2, 1) := db_44 (bt_of (i := 22) lb_35 rfl rfl (by decide))
theorem dL_law_2263 : decode cL_law 2263 = .ok (.aload_n 0, 1) := db_42 (bt_of (i := 23) lb_35 rfl rfl (by decide))
theorem dL_law_2264 : decode cL_law 2264 = .ok (.iload 4, 2) := db_21 (bt_of (i := 24) lb_35 rfl rfl (by decide)) (bt_of (i := 25) lb_35 rfl rfl (by decide))
theorem dL_law_2266 : decode cL_law 2266 = .ok (.iconst 1, 1) := db_4 (bt_of (i := 26) lb_35 rfl rfl (by decide))
theorem dL_law_2267 : decode cL_law 2267 = .ok (.iadd, 1) := db_96 (bt_of (i := 27) lb_35 rfl rfl (by decide))
theorem dL_law_2268 : decode cL_law 2268 = .ok (.iaload, 1) := db_46 (bt_of (i := 28) lb_35 rfl rfl (by decide))
theorem dL_law_2269 : decode cL_law 2269 = .ok (.aload_n 0, 1) := db_42 (bt_of (i := 29) lb_35 rfl rfl (by decide))
theorem dL_law_2270 : decode cL_law 2270 = .ok (.iload 4, 2) := db_21 (bt_of (i := 30) lb_35 rfl rfl (by decide)) (bt_of (i := 31) lb_35 rfl rfl (by decide))
theorem dL_law_2272 : decode cL_law 2272 = .ok (.iconst 2, 1) := db_5 (bt_of (i := 32) lb_35 rfl rfl (by decide))
theorem dL_law_2273 : decode cL_law 2273 = .ok (.iadd, 1) := db_96 (bt_of (i := 33) lb_35 rfl rfl (by decide))
theorem dL_law_2274 : decode cL_law 2274 = .ok (.iaload, 1) := db_46 (bt_of (i := 34) lb_35 rfl rfl (by decide))
theorem dL_law_2275 : decode cL_law 2275 = .ok (.invokevirtual 271, 3) := db_182 (bt_of (i := 35) lb_35 rfl rfl (by decide)) (bt_of (i := 36) lb_35 rfl rfl (by decide)) (bt_of (i := 37) lb_35 rfl rfl (by decide))
theorem dL_law_2278 : decode cL_law 2278 = .ok (.lstore 6, 2) := db_55 (bt_of (i := 38) lb_35 rfl rfl (by decide)) (bt_of (i := 39) lb_35 rfl rfl (by decide))
theorem dL_law_2280 : decode cL_law 2280 = .ok (.aload_n 2, 1) := db_44 (bt_of (i := 40) lb_35 rfl rfl (by decide))
theorem dL_law_2281 : decode cL_law 2281 = .ok (.invokevirtual 179, 3) := db_182 (bt_of (i := 41) lb_35 rfl rfl (by decide)) (bt_of (i := 42) lb_35 rfl rfl (by decide)) (bt_of (i := 43) lb_35 rfl rfl (by decide))
theorem dL_law_2284 : decode cL_law 2284 = .ok (.iload 5, 2) := db_21 (bt_of (i := 44) lb_35 rfl rfl (by decide)) (bt_of (i := 45) lb_35 rfl rfl (by decide))
theorem dL_law_2286 : decode cL_law 2286 = .ok (.if_icmp .eq 5, 3) := db_159 (bt_of (i := 46) lb_35 rfl rfl (by decide)) (bt_of (i := 47) lb_35 rfl rfl (by decide)) (bt_of (i := 48) lb_35 rfl rfl (by decide)) (by decide +kernel)
theorem dL_law_2289 : decode cL_law 2289 = .ok (.iconst 0, 1) := db_3 (bt_of (i := 49) lb_35 rfl rfl (by decide))
theorem dL_law_2290 : decode cL_law 2290 = .ok (.ireturn, 1) := db_172 (bt_of (i := 50) lb_35 rfl rfl (by decide))
theorem dL_law_2291 : decode cL_law 2291 = .ok (.iload 5, 2) := db_21 (bt_of (i := 51) lb_35 rfl rfl (by decide)) (bt_of (i := 52) lb_35 rfl rfl (by decide))
theorem dL_law_2293 : decode cL_law 2293 = .ok (.ifCond .ne 14, 3) := db_154 (bt_of (i := 53) lb_35 rfl rfl (by decide)) (bt_of (i := 54) lb_35 rfl rfl (by decide)) (bt_of (i := 55) lb_35 rfl rfl (by decide)) (by decide +kernel)
theorem dL_law_2296 : decode cL_law 2296 = .ok (.aload_n 3, 1) := db_45 (bt_of (i := 56) lb_35 rfl rfl (by decide))
theorem dL_law_2297 : decode cL_law 2297 = .ok (.iconst 0, 1) := db_3 (bt_of (i := 57) lb_35 rfl rfl (by decide))
theorem dL_law_2298 : decode cL_law 2298 = .ok (.laload, 1) := db_47 (bt_of (i := 58) lb_35 rfl rfl (by decide))
theorem dL_law_2299 : decode cL_law 2299 = .ok (.lload 6, 2) := db_22 (bt_of (i := 59) lb_35 rfl rfl (by decide)) (bt_of (i := 60) lb_35 rfl rfl (by decide))
theorem dL_law_2301 : decode cL_law 2301 = .ok (.lcmp, 1) := db_148 (bt_of (i := 61) lb_35 rfl rfl (by decide))
theorem dL_law_2302 : decode cL_law 2302 = .ok (.ifCond .eq 5, 3) := db_153 (bt_of (i := 62) lb_35 rfl rfl (by decide)) (bt_of (i := 63) lb_35 rfl rfl (by decide)) (bt_of (i := 0) lb_36 rfl rfl (by decide)) (by decide +kernel)
theorem dL_law_2305 : decode cL_law 2305 = .ok (.iconst 0, 1) := db_3 (bt_of (i := 1) lb_36 rfl rfl (by decide))
theorem dL_law_2306 : decode cL_law 2306 = .ok (.ireturn, 1) := db_172 (bt_of (i := 2) lb_36 rfl rfl (by decide))
theorem dL_law_2307 : decode cL_law 2307 = .ok (.goto 1240, 3) := db_167 (bt_of (i := 3) lb_36 rfl rfl (by decide)) (bt_of (i := 4) lb_36 rfl rfl (by decide)) (bt_of (i := 5) lb_36 rfl rfl (by decide)) (by decide +kernel)
theorem dL_law_2310 : decode cL_law 2310 = .ok (.aload_n 1, 1) := db_43 (bt_of (i := 6) lb_36 rfl rfl (by decide))
theorem dL_law_2311 : decode cL_law 2311 = .ok (.aload_n 0, 1) := db_42 (bt_of (i := 7) lb_36 rfl rfl (by decide))
theorem dL_law_2312 : decode cL_law 2312 = .ok (.iload 4, 2) := db_21 (bt_of (i := 8) lb_36 rfl rfl (by decide)) (bt_of (i := 9) lb_36 rfl rfl (by decide))
theorem dL_law_2314 : decode cL_law 2314 = .ok (.iconst 1, 1) := db_4 (bt_of (i := 10) lb_36 rfl rfl (by decide))
theorem dL_law_2315 : decode cL_law 2315 = .ok (.iadd, 1) := db_96 (bt_of (i := 11) lb_36 rfl rfl (by decide))
theorem dL_law_2316 : decode cL_law 2316 = .ok (.iaload, 1) := db_46 (bt_of (i := 12) lb_36 rfl rfl (by decide))
theorem dL_law_2317 : decode cL_law 2317 = .ok (.aload_n 3, 1) := db_45 (bt_of (i := 13) lb_36 rfl rfl (by decide))
theorem dL_law_2318 : decode cL_law 2318 = .ok (.invokestatic 272, 3) := db_184 (bt_of (i := 14) lb_36 rfl rfl (by decide)) (bt_of (i := 15) lb_36 rfl rfl (by decide)) (bt_of (i := 16) lb_36 rfl rfl (by decide))
theorem dL_law_2321 : decode cL_law 2321 = .ok (.istore 5, 2) := db_54 (bt_of (i := 17) lb_36 rfl rfl (by decide)) (bt_of (i := 18) lb_36 rfl rfl (by decide))
theorem dL_law_2323 : decode cL_law 2323 = .ok (.aload_n 2, 1) := db_44 (bt_of (i := 19) lb_36 rfl rfl (by decide))
theorem dL_law_2324 : decode cL_law 2324 = .ok (.aload_n 0, 1) := db_42 (bt_of (i := 20) lb_36 rfl rfl (by decide))
theorem dL_law_2325 : decode cL_law 2325 = .ok (.iload 4, 2) := db_21 (bt_of (i := 21) lb_36 rfl rfl (by decide)) (bt_of (i := 22) lb_36 rfl rfl (by decide))
theorem dL_law_2327 : decode cL_law 2327 = .ok (.iconst 1, 1) := db_4 (bt_of (i := 23) lb_36 rfl rfl (by decide))
theorem dL_law_2328 : decode cL_law 2328 = .ok (.iadd, 1) := db_96 (bt_of (i := 24) lb_36 rfl rfl (by decide))
theorem dL_law_2329 : decode cL_law 2329 = .ok (.iaload, 1) := db_46 (bt_of (i := 25) lb_36 rfl rfl (by decide))
theorem dL_law_2330 : decode cL_law 2330 = .ok (.invokevirtual 274, 3) := db_182 (bt_of (i := 26) lb_36 rfl rfl (by decide)) (bt_of (i := 27) lb_36 rfl rfl (by decide)) (bt_of (i := 28) lb_36 rfl rfl (by decide))
theorem dL_law_2333 : decode cL_law 2333 = .ok (.lstore 6, 2) := db_55 (bt_of (i := 29) lb_36 rfl rfl (by decide)) (bt_of (i := 30) lb_36 rfl rfl (by decide))
theorem dL_law_2335 : decode cL_law 2335 = .ok (.aload_n 2, 1) := db_44 (bt_of (i := 31) lb_36 rfl rfl (by decide))
theorem dL_law_2336 : decode cL_law 2336 = .ok (.invokevirtual 179, 3) := db_182 (bt_of (i := 32) lb_36 rfl rfl (by decide)) (bt_of (i := 33) lb_36 rfl rfl (by decide)) (bt_of (i := 34) lb_36 rfl rfl (by decide))
theorem dL_law_2339 : decode cL_law 2339 = .ok (.iload 5, 2) := db_21 (bt_of (i := 35) lb_36 rfl rfl (by decide)) (bt_of (i := 36) lb_36 rfl rfl (by decide))
theorem dL_law_2341 : decode cL_law 2341 = .ok (.if_icmp .eq 5, 3) := db_159 (bt_of (i := 37) lb_36 rfl rfl (by decide)) (bt_of (i := 38) lb_36 rfl rfl (by decide)) (bt_of (i := 39) lb_36 rfl rfl (by decide)) (by decide +kernel)
theorem dL_law_2344 : decode cL_law 2344 = .ok (.iconst 0, 1) := db_3 (bt_of (i := 40) lb_36 rfl rfl (by decide))
theorem dL_law_2345 : decode cL_law 2345 = .ok (.ireturn, 1) := db_172 (bt_of (i := 41) lb_36 rfl rfl (by decide))
theorem dL_law_2346 : decode cL_law 2346 = .ok (.iload 5, 2) := db_21 (bt_of (i := 42) lb_36 rfl rfl (by decide)) (bt_of (i := 43) lb_36 rfl rfl (by decide))
theorem dL_law_2348 : decode cL_law 2348 = .ok (.ifCond .ne 14, 3) := db_154 (bt_of (i := 44) lb_36 rfl rfl (by decide)) (bt_of (i := 45) lb_36 rfl rfl (by decide)) (bt_of (i := 46) lb_36 rfl rfl (by decide)) (by decide +kernel)
theorem dL_law_2351 : decode cL_law 2351 = .ok (.aload_n 3, 1) := db_45 (bt_of (i := 47) lb_36 rfl rfl (by decide))
theorem dL_law_2352 : decode cL_law 2352 = .ok (.iconst 0, 1) := db_3 (bt_of (i := 48) lb_36 rfl rfl (by decide))
theorem dL_law_2353 : decode cL_law 2353 = .ok (.laload, 1) := db_47 (bt_of (i := 49) lb_36 rfl rfl (by decide))
theorem dL_law_2354 : decode cL_law 2354 = .ok (.lload 6, 2) := db_22 (bt_of (i := 50) lb_36 rfl rfl (by decide)) (bt_of (i := 51) lb_36 rfl rfl (by decide))
theorem dL_law_2356 : decode cL_law 2356 = .ok (.lcmp, 1) := db_148 (bt_of (i := 52) lb_36 rfl rfl (by decide))
theorem dL_law_2357 : decode cL_law 2357 = .ok (.ifCond .eq 5, 3) := db_153 (bt_of (i := 53) lb_36 rfl rfl (by decide)) (bt_of (i := 54) lb_36 rfl rfl (by decide)) (bt_of (i := 55) lb_36 rfl rfl (by decide)) (by decide +kernel)
theorem dL_law_2360 : decode cL_law 2360 = .ok (.iconst 0, 1) := db_3 (bt_of (i := 56) lb_36 rfl rfl (by decide))
theorem dL_law_2361 : decode cL_law 2361 = .ok (.ireturn, 1) := db_172 (bt_of (i := 57) lb_36 rfl rfl (by decide))
theorem dL_law_2362 : decode cL_law 2362 = .ok (.goto 1185, 3) := db_167 (bt_of (i := 58) lb_36 rfl rfl (by decide)) (bt_of (i := 59) lb_36 rfl rfl (by decide)) (bt_of (i := 60) lb_36 rfl rfl (by decide)) (by decide +kernel)
theorem dL_law_2365 : decode cL_law 2365 = .ok (.aload_n 1, 1) := db_43 (bt_of (i := 61) lb_36 rfl rfl (by decide))
theorem dL_law_2366 : decode cL_law 2366 = .ok (.aload_n 0, 1) := db_42 (bt_of (i := 62) lb_36 rfl rfl (by decide))
theorem dL_law_2367 : decode cL_law 2367 = .ok (.iload 4, 2) := db_21 (bt_of (i := 63) lb_36 rfl rfl (by decide)) (bt_of (i := 0) lb_37 rfl rfl (by decide))
theorem dL_law_2369 : decode cL_law 2369 = .ok (.iconst 1, 1) := db_4 (bt_of (i := 1) lb_37 rfl rfl (by decide))
theorem dL_law_2370 : decode cL_law 2370 = .ok (.iadd, 1) := db_96 (bt_of (i := 2) lb_37 rfl rfl (by decide))
theorem dL_law_2371 : decode cL_law 2371 = .ok (.iaload, 1) := db_46 (bt_of (i := 3) lb_37 rfl rfl (by decide))
theorem dL_law_2372 : decode cL_law 2372 = .ok (.aload_n 3, 1) := db_45 (bt_of (i := 4) lb_37 rfl rfl (by decide))
theorem dL_law_2373 : decode cL_law 2373 = .ok (.invokestatic 275, 3) := db_184 (bt_of (i := 5) lb_37 rfl rfl (by decide)) (bt_of (i := 6) lb_37 rfl rfl (by decide)) (bt_of (i := 7) lb_37 rfl rfl (by decide))
theorem dL_law_2376 : decode cL_law 2376 = .ok (.istore 5, 2) := db_54 (bt_of (i := 8) lb_37 rfl rfl (by decide)) (bt_of (i := 9) lb_37 rfl rfl (by decide))
theorem dL_law_2378 : decode cL_law 2378 = .ok (.aload_n 2, 1) := db_44 (bt_of (i := 10) lb_37 rfl rfl (by decide))
theorem dL_law_2379 : decode cL_law 2379 = .ok (.aload_n 0, 1) := db_42 (bt_of (i := 11) lb_37 rfl rfl (by decide))
theorem dL_law_2380 : decode cL_law 2380 = .ok (.iload 4, 2) := db_21 (bt_of (i := 12) lb_37 rfl rfl (by decide)) (bt_of (i := 13) lb_37 rfl rfl (by decide))
theorem dL_law_2382 : decode cL_law 2382 = .ok (.iconst 1, 1) := db_4 (bt_of (i := 14) lb_37 rfl rfl (by decide))
theorem dL_law_2383 : decode cL_law 2383 = .ok (.iadd, 1) := db_96 (bt_of (i := 15) lb_37 rfl rfl (by decide))
theorem dL_law_2384 : decode cL_law 2384 = .ok (.iaload, 1) := db_46 (bt_of (i := 16) lb_37 rfl rfl (by decide))
theorem dL_law_2385 : decode cL_law 2385 = .ok (.invokevirtual 277, 3) := db_182 (bt_of (i := 17) lb_37 rfl rfl (by decide)) (bt_of (i := 18) lb_37 rfl rfl (by decide)) (bt_of (i := 19) lb_37 rfl rfl (by decide))
theorem dL_law_2388 : decode cL_law 2388 = .ok (.lstore 6, 2) := db_55 (bt_of (i := 20) lb_37 rfl rfl (by decide)) (bt_of (i := 21) lb_37 rfl rfl (by decide))
theorem dL_law_2390 : decode cL_law 2390 = .ok (.aload_n 2, 1) := db_44 (bt_of (i := 22) lb_37 rfl rfl (by decide))
theorem dL_law_2391 : decode cL_law 2391 = .ok (.invokevirtual 179, 3) := db_182 (bt_of (i := 23) lb_37 rfl rfl (by decide)) (bt_of (i := 24) lb_37 rfl rfl (by decide)) (bt_of (i := 25) lb_37 rfl rfl (by decide))
theorem dL_law_2394 : decode cL_law 2394 = .ok (.iload 5, 2) := db_21 (bt_of (i := 26) lb_37 rfl rfl (by decide)) (bt_of (i := 27) lb_37 rfl rfl (by decide))
theorem dL_law_2396 : decode cL_law 2396 = .ok (.if_icmp .eq 5, 3) := db_159 (bt_of (i := 28) lb_37 rfl rfl (by decide)) (bt_of (i := 29) lb_37 rfl rfl (by decide)) (bt_of (i := 30) lb_37 rfl rfl (by decide)) (by decide +kernel)
theorem dL_law_2399 : decode cL_law 2399 = .ok (.iconst 0, 1) := db_3 (bt_of (i := 31) lb_37 rfl rfl (by decide))
theorem dL_law_2400 : decode cL_law 2400 = .ok (.ireturn, 1) := db_172 (bt_of (i := 32) lb_37 rfl rfl (by decide))
theorem dL_law_2401 : decode cL_law 2401 = .ok (.iload 5, 2) := db_21 (bt_of (i := 33) lb_37 rfl rfl (by decide)) (bt_of (i := 34) lb_37 rfl rfl (by decide))
theorem dL_law_2403 : decode cL_law 2403 = .ok (.ifCond .ne 14, 3) := db_154 (bt_of (i := 35) lb_37 rfl rfl (by decide)) (bt_of (i := 36) lb_37 rfl rfl (by decide)) (bt_of (i := 37) lb_37 rfl rfl (by decide)) (by decide +kernel)
theorem dL_law_2406 : decode cL_law 2406 = .ok (.aload_n 3, 1) := db_45 (bt_of (i := 38) lb_37 rfl rfl (by decide))
theorem dL_law_2407 : decode cL_law 2407 = .ok (.iconst 0, 1) := db_3 (bt_of (i := 39) lb_37 rfl rfl (by decide))
theorem dL_law_2408 : decode cL_law 2408 = .ok (.laload, 1) := db_47 (bt_of (i := 40) lb_37 rfl rfl (by decide))
theorem dL_law_2409 : decode cL_law 2409 = .ok (.lload 6, 2) := db_22 (bt_of (i := 41) lb_37 rfl rfl (by decide)) (bt_of (i := 42) lb_37 rfl rfl (by decide))
theorem dL_law_2411 : decode cL_law 2411 = .ok (.lcmp, 1) := db_148 (bt_of (i := 43) lb_37 rfl rfl (by decide))
theorem dL_law_2412 : decode cL_law 2412 = .ok (.ifCond .eq 5, 3) := db_153 (bt_of (i := 44) lb_37 rfl rfl (by decide)) (bt_of (i := 45) lb_37 rfl rfl (by decide)) (bt_of (i := 46) lb_37 rfl rfl (by decide)) (by decide +kernel)
theorem dL_law_2415 : decode cL_law 2415 = .ok (.iconst 0, 1) := db_3 (bt_of (i := 47) lb_37 rfl rfl (by decide))
theorem dL_law_2416 : decode cL_law 2416 = .ok (.ireturn, 1) := db_172 (bt_of (i := 48) lb_37 rfl rfl (by decide))
theorem dL_law_2417 : decode cL_law 2417 = .ok (.goto 1130, 3) := db_167 (bt_of (i := 49) lb_37 rfl rfl (by decide)) (bt_of (i := 50) lb_37 rfl rfl (by decide)) (bt_of (i := 51) lb_37 rfl rfl (by decide)) (by decide +kernel)
theorem dL_law_2420 : decode cL_law 2420 = .ok (.aload_n 1, 1) := db_43 (bt_of (i := 52) lb_37 rfl rfl (by decide))
theorem dL_law_2421 : decode cL_law 2421 = .ok (.aload_n 0, 1) := db_42 (bt_of (i := 53) lb_37 rfl rfl (by decide))
theorem dL_law_2422 : decode cL_law 2422 = .ok (.iload 4, 2) := db_21 (bt_of (i := 54) lb_37 rfl rfl (by decide)) (bt_of (i := 55) lb_37 rfl rfl (by decide))
theorem dL_law_2424 : decode cL_law 2424 = .ok (.iconst 1, 1) := db_4 (bt_of (i := 56) lb_37 rfl rfl (by decide))
theorem dL_law_2425 : decode cL_law 2425 = .ok (.iadd, 1) := db_96 (bt_of (i := 57) lb_37 rfl rfl (by decide))
theorem dL_law_2426 : decode cL_law 2426 = .ok (.iaload, 1) := db_46 (bt_of (i := 58) lb_37 rfl rfl (by decide))
theorem dL_law_2427 : decode cL_law 2427 = .ok (.aload_n 3, 1) := db_45 (bt_of (i := 59) lb_37 rfl rfl (by decide))
theorem dL_law_2428 : decode cL_law 2428 = .ok (.invokestatic 278, 3) := db_184 (bt_of (i := 60) lb_37 rfl rfl (by decide)) (bt_of (i := 61) lb_37 rfl rfl (by decide)) (bt_of (i := 62) lb_37 rfl rfl (by decide))
theorem dL_law_2431 : decode cL_law 2431 = .ok (.istore 5, 2) := db_54 (bt_of (i := 63) lb_37 rfl rfl (by decide)) (bt_of (i := 0) lb_38 rfl rfl (by decide))
theorem dL_law_2433 : decode cL_law 2433 = .ok (.aload_n 2, 1) := db_44 (bt_of (i := 1) lb_38 rfl rfl (by decide))
theorem dL_law_2434 : decode cL_law 2434 = .ok (.aload_n 0, 1) := db_42 (bt_of (i := 2) lb_38 rfl rfl (by decide))
theorem dL_law_2435 : decode cL_law 2435 = .ok (.iload 4, 2) := db_21 (bt_of (i := 3) lb_38 rfl rfl (by decide)) (bt_of (i := 4) lb_38 rfl rfl (by decide))
theorem dL_law_2437 : decode cL_law 2437 = .ok (.iconst 1, 1) := db_4 (bt_of (i := 5) lb_38 rfl rfl (by decide))
theorem dL_law_2438 : decode cL_law 2438 = .ok (.iadd, 1) := db_96 (bt_of (i := 6) lb_38 rfl rfl (by decide))
theorem dL_law_2439 : decode cL_law 2439 = .ok (.iaload, 1) := db_46 (bt_of (i := 7) lb_38 rfl rfl (by decide))
theorem dL_law_2440 : decode cL_law 2440 = .ok (.invokevirtual 280, 3) := db_182 (bt_of (i := 8) lb_38 rfl rfl (by decide)) (bt_of (i := 9) lb_38 rfl rfl (by decide)) (bt_of (i := 10) lb_38 rfl rfl (by decide))
theorem dL_law_2443 : decode cL_law 2443 = .ok (.lstore 6, 2) := db_55 (bt_of (i := 11) lb_38 rfl rfl (by decide)) (bt_of (i := 12) lb_38 rfl rfl (by decide))
theorem dL_law_2445 : decode cL_law 2445 = .ok (.aload_n 2, 1) := db_44 (bt_of (i := 13) lb_38 rfl rfl (by decide))
theorem dL_law_2446 : decode cL_law 2446 = .ok (.invokevirtual 179, 3) := db_182 (bt_of (i := 14) lb_38 rfl rfl (by decide)) (bt_of (i := 15) lb_38 rfl rfl (by decide)) (bt_of (i := 16) lb_38 rfl rfl (by decide))
theorem dL_law_2449 : decode cL_law 2449 = .ok (.iload 5, 2) := db_21 (bt_of (i := 17) lb_38 rfl rfl (by decide)) (bt_of (i := 18) lb_38 rfl rfl (by decide))
theorem dL_law_2451 : decode cL_law 2451 = .ok (.if_icmp .eq 5, 3) := db_159 (bt_of (i := 19) lb_38 rfl rfl (by decide)) (bt_of (i := 20) lb_38 rfl rfl (by decide)) (bt_of (i := 21) lb_38 rfl rfl (by decide)) (by decide +kernel)
theorem dL_law_2454 : decode cL_law 2454 = .ok (.iconst 0, 1) := db_3 (bt_of (i := 22) lb_38 rfl rfl (by decide))
theorem dL_law_2455 : decode cL_law 2455 = .ok (.ireturn, 1) := db_172 (bt_of (i := 23) lb_38 rfl rfl (by decide))
theorem dL_law_2456 : decode cL_law 2456 = .ok (.iload 5, 2) := db_21 (bt_of (i := 24) lb_38 rfl rfl (by decide)) (bt_of (i := 25) lb_38 rfl rfl (by decide))
theorem dL_law_2458 : decode cL_law 2458 = .ok (.ifCond .ne 14, 3) := db_154 (bt_of (i := 26) lb_38 rfl rfl (by decide)) (bt_of (i := 27) lb_38 rfl rfl (by decide)) (bt_of (i := 28) lb_38 rfl rfl (by decide)) (by decide +kernel)
theorem dL_law_2461 : decode cL_law 2461 = .ok (.aload_n 3, 1) := db_45 (bt_of (i := 29) lb_38 rfl rfl (by decide))
theorem dL_law_2462 : decode cL_law 2462 = .ok (.iconst 0, 1) := db_3 (bt_of (i := 30) lb_38 rfl rfl (by decide))
theorem dL_law_2463 : decode cL_law 2463 = .ok (.laload, 1) := db_47 (bt_of (i := 31) lb_38 rfl rfl (by decide))
theorem dL_law_2464 : decode cL_law 2464 = .ok (.lload 6, 2) := db_22 (bt_of (i := 32) lb_38 rfl rfl (by decide)) (bt_of (i := 33) lb_38 rfl rfl (by decide))
theorem dL_law_2466 : decode cL_law 2466 = .ok (.lcmp, 1) := db_148 (bt_of (i := 34) lb_38 rfl rfl (by decide))
theorem dL_law_2467 : decode cL_law 2467 = .ok (.ifCond .eq 5, 3) := db_153 (bt_of (i := 35) lb_38 rfl rfl (by decide)) (bt_of (i := 36) lb_38 rfl rfl (by decide)) (bt_of (i := 37) lb_38 rfl rfl (by decide)) (by decide +kernel)
theorem dL_law_2470 : decode cL_law 2470 = .ok (.iconst 0, 1) := db_3 (bt_of (i := 38) lb_38 rfl rfl (by decide))
theorem dL_law_2471 : decode cL_law 2471 = .ok (.ireturn, 1) := db_172 (bt_of (i := 39) lb_38 rfl rfl (by decide))
theorem dL_law_2472 : decode cL_law 2472 = .ok (.goto 1075, 3) := db_167 (bt_of (i := 40) lb_38 rfl rfl (by decide)) (bt_of (i := 41) lb_38 rfl rfl (by decide)) (bt_of (i := 42) lb_38 rfl rfl (by decide)) (by decide +kernel)
theorem dL_law_2475 : decode cL_law 2475 = .ok (.aload_n 1, 1) := db_43 (bt_of (i := 43) lb_38 rfl rfl (by decide))
theorem dL_law_2476 : decode cL_law 2476 = .ok (.aload_n 0, 1) := db_42 (bt_of (i := 44) lb_38 rfl rfl (by decide))
theorem dL_law_2477 : decode cL_law 2477 = .ok (.iload 4, 2) := db_21 (bt_of (i := 45) lb_38 rfl rfl (by decide)) (bt_of (i := 46) lb_38 rfl rfl (by decide))
theorem dL_law_2479 : decode cL_law 2479 = .ok (.iconst 1, 1) := db_4 (bt_of (i := 47) lb_38 rfl rfl (by decide))
theorem dL_law_2480 : decode cL_law 2480 = .ok (.iadd, 1) := db_96 (bt_of (i := 48) lb_38 rfl rfl (by decide))
theorem dL_law_2481 : decode cL_law 2481 = .ok (.iaload, 1) := db_46 (bt_of (i := 49) lb_38 rfl rfl (by decide))
theorem dL_law_2482 : decode cL_law 2482 = .ok (.aload_n 3, 1) := db_45 (bt_of (i := 50) lb_38 rfl rfl (by decide))
theorem dL_law_2483 : decode cL_law 2483 = .ok (.invokestatic 281, 3) := db_184 (bt_of (i := 51) lb_38 rfl rfl (by decide)) (bt_of (i := 52) lb_38 rfl rfl (by decide)) (bt_of (i := 53) lb_38 rfl rfl (by decide))
theorem dL_law_2486 : decode cL_law 2486 = .ok (.istore 5, 2) := db_54 (bt_of (i := 54) lb_38 rfl rfl (by decide)) (bt_of (i := 55) lb_38 rfl rfl (by decide))
theorem dL_law_2488 : decode cL_law 2488 = .ok (.aload_n 2, 1) := db_44 (bt_of (i := 56) lb_38 rfl rfl (by decide))
theorem dL_law_2489 : decode cL_law 2489 = .ok (.aload_n 0, 1) := db_42 (bt_of (i := 57) lb_38 rfl rfl (by decide))
theorem dL_law_2490 : decode cL_law 2490 = .ok (.iload 4, 2) := db_21 (bt_of (i := 58) lb_38 rfl rfl (by decide)) (bt_of (i := 59) lb_38 rfl rfl (by decide))
theorem dL_law_2492 : decode cL_law 2492 = .ok (.iconst 1, 1) := db_4 (bt_of (i := 60) lb_38 rfl rfl (by decide))
theorem dL_law_2493 : decode cL_law 2493 = .ok (.iadd, 1) := db_96 (bt_of (i := 61) lb_38 rfl rfl (by decide))
theorem dL_law_2494 : decode cL_law 2494 = .ok (.iaload, 1) := db_46 (bt_of (i := 62) lb_38 rfl rfl (by decide))
theorem dL_law_2495 : decode cL_law 2495 = .ok (.invokevirtual 283, 3) := db_182 (bt_of (i := 63) lb_38 rfl rfl (by decide)) (bt_of (i := 0) lb_39 rfl rfl (by decide)) (bt_of (i := 1) lb_39 rfl rfl (by decide))
theorem dL_law_2498 : decode cL_law 2498 = .ok (.istore 6, 2) := db_54 (bt_of (i := 2) lb_39 rfl rfl (by decide)) (bt_of (i := 3) lb_39 rfl rfl (by decide))
theorem dL_law_2500 : decode cL_law 2500 = .ok (.aload_n 2, 1) := db_44 (bt_of (i := 4) lb_39 rfl rfl (by decide))
theorem dL_law_2501 : decode cL_law 2501 = .ok (.invokevirtual 179, 3) := db_182 (bt_of (i := 5) lb_39 rfl rfl (by decide)) (bt_of (i := 6) lb_39 rfl rfl (by decide)) (bt_of (i := 7) lb_39 rfl rfl (by decide))
theorem dL_law_2504 : decode cL_law 2504 = .ok (.iload 5, 2) := db_21 (bt_of (i := 8) lb_39 rfl rfl (by decide)) (bt_of (i := 9) lb_39 rfl rfl (by decide))
theorem dL_law_2506 : decode cL_law 2506 = .ok (.if_icmp .eq 5, 3) := db_159 (bt_of (i := 10) lb_39 rfl rfl (by decide)) (bt_of (i := 11) lb_39 rfl rfl (by decide)) (bt_of (i := 12) lb_39 rfl rfl (by decide)) (by decide +kernel)
theorem dL_law_2509 : decode cL_law 2509 = .ok (.iconst 0, 1) := db_3 (bt_of (i := 13) lb_39 rfl rfl (by decide))
theorem dL_law_2510 : decode cL_law 2510 = .ok (.ireturn, 1) := db_172 (bt_of (i := 14) lb_39 rfl rfl (by decide))
theorem dL_law_2511 : decode cL_law 2511 = .ok (.iload 5, 2) := db_21 (bt_of (i := 15) lb_39 rfl rfl (by decide)) (bt_of (i := 16) lb_39 rfl rfl (by decide))
theorem dL_law_2513 : decode cL_law 2513 = .ok (.ifCond .ne 15, 3) := db_154 (bt_of (i := 17) lb_39 rfl rfl (by decide)) (bt_of (i := 18) lb_39 rfl rfl (by decide)) (bt_of (i := 19) lb_39 rfl rfl (by decide)) (by decide +kernel)
theorem dL_law_2516 : decode cL_law 2516 = .ok (.aload_n 3, 1) := db_45 (bt_of (i := 20) lb_39 rfl rfl (by decide))
theorem dL_law_2517 : decode cL_law 2517 = .ok (.iconst 0, 1) := db_3 (bt_of (i := 21) lb_39 rfl rfl (by decide))
theorem dL_law_2518 : decode cL_law 2518 = .ok (.laload, 1) := db_47 (bt_of (i := 22) lb_39 rfl rfl (by decide))
theorem dL_law_2519 : decode cL_law 2519 = .ok (.iload 6, 2) := db_21 (bt_of (i := 23) lb_39 rfl rfl (by decide)) (bt_of (i := 24) lb_39 rfl rfl (by decide))
theorem dL_law_2521 : decode cL_law 2521 = .ok (.i2l, 1) := db_133 (bt_of (i := 25) lb_39 rfl rfl (by decide))
theorem dL_law_2522 : decode cL_law 2522 = .ok (.lcmp, 1) := db_148 (bt_of (i := 26) lb_39 rfl rfl (by decide))
theorem dL_law_2523 : decode cL_law 2523 = .ok (.ifCond .eq 5, 3) := db_153 (bt_of (i := 27) lb_39 rfl rfl (by decide)) (bt_of (i := 28) lb_39 rfl rfl (by decide)) (bt_of (i := 29) lb_39 rfl rfl (by decide)) (by decide +kernel)
theorem dL_law_2526 : decode cL_law 2526 = .ok (.iconst 0, 1) := db_3 (bt_of (i := 30) lb_39 rfl rfl (by decide))
theorem dL_law_2527 : decode cL_law 2527 = .ok (.ireturn, 1) := db_172 (bt_of (i := 31) lb_39 rfl rfl (by decide))
theorem dL_law_2528 : decode cL_law 2528 = .ok (.goto 1019, 3) := db_167 (bt_of (i := 32) lb_39 rfl rfl (by decide)) (bt_of (i := 33) lb_39 rfl rfl (by decide)) (bt_of (i := 34) lb_39 rfl rfl (by decide)) (by decide +kernel)
theorem dL_law_2531 : decode cL_law 2531 = .ok (.aload_n 1, 1) := db_43 (bt_of (i := 35) lb_39 rfl rfl (by decide))
theorem dL_law_2532 : decode cL_law 2532 = .ok (.aload_n 0, 1) := db_42 (bt_of (i := 36) lb_39 rfl rfl (by decide))
theorem dL_law_2533 : decode cL_law 2533 = .ok (.iload 4, 2) := db_21 (bt_of (i := 37) lb_39 rfl rfl (by decide)) (bt_of (i := 38) lb_39 rfl rfl (by decide))
theorem dL_law_2535 : decode cL_law 2535 = .ok (.iconst 1, 1) := db_4 (bt_of (i := 39) lb_39 rfl rfl (by decide))
theorem dL_law_2536 : decode cL_law 2536 = .ok (.iadd, 1) := db_96 (bt_of (i := 40) lb_39 rfl rfl (by decide))
theorem dL_law_2537 : decode cL_law 2537 = .ok (.iaload, 1) := db_46 (bt_of (i := 41) lb_39 rfl rfl (by decide))
theorem dL_law_2538 : decode cL_law 2538 = .ok (.i2l, 1) := db_133 (bt_of (i := 42) lb_39 rfl rfl (by decide))
theorem dL_law_2539 : decode cL_law 2539 = .ok (.bipush 32, 2) := db_16 (bt_of (i := 43) lb_39 rfl rfl (by decide)) (bt_of (i := 44) lb_39 rfl rfl (by decide))
theorem dL_law_2541 : decode cL_law 2541 = .ok (.lshl, 1) := db_121 (bt_of (i := 45) lb_39 rfl rfl (by decide))
theorem dL_law_2542 : decode cL_law 2542 = .ok (.aload_n 0, 1) := db_42 (bt_of (i := 46) lb_39 rfl rfl (by decide))
theorem dL_law_2543 : decode cL_law 2543 = .ok (.iload 4, 2) := db_21 (bt_of (i := 47) lb_39 rfl rfl (by decide)) (bt_of (i := 48) lb_39 rfl rfl (by decide))
theorem dL_law_2545 : decode cL_law 2545 = .ok (.iconst 2, 1) := db_5 (bt_of (i := 49) lb_39 rfl rfl (by decide))
theorem dL_law_2546 : decode cL_law 2546 = .ok (.iadd, 1) := db_96 (bt_of (i := 50) lb_39 rfl rfl (by decide))
theorem dL_law_2547 : decode cL_law 2547 = .ok (.iaload, 1) := db_46 (bt_of (i := 51) lb_39 rfl rfl (by decide))
theorem dL_law_2548 : decode cL_law 2548 = .ok (.i2l, 1) := db_133 (bt_of (i := 52) lb_39 rfl rfl (by decide))
theorem dL_law_2549 : decode cL_law 2549 = .ok (.ldc2_w 171, 3) := db_20 (bt_of (i := 53) lb_39 rfl rfl (by decide)) (bt_of (i := 54) lb_39 rfl rfl (by decide)) (bt_of (i := 55) lb_39 rfl rfl (by decide))
theorem dL_law_2552 : decode cL_law 2552 = .ok (.land, 1) := db_127 (bt_of (i := 56) lb_39 rfl rfl (by decide))
theorem dL_law_2553 : decode cL_law 2553 = .ok (.lor, 1) := db_129 (bt_of (i := 57) lb_39 rfl rfl (by decide))
theorem dL_law_2554 : decode cL_law 2554 = .ok (.aload_n 0, 1) := db_42 (bt_of (i := 58) lb_39 rfl rfl (by decide))
theorem dL_law_2555 : decode cL_law 2555 = .ok (.iload 4, 2) := db_21 (bt_of (i := 59) lb_39 rfl rfl (by decide)) (bt_of (i := 60) lb_39 rfl rfl (by decide))
theorem dL_law_2557 : decode cL_law 2557 = .ok (.iconst 3, 1) := db_6 (bt_of (i := 61) lb_39 rfl rfl (by decide))
theorem dL_law_2558 : decode cL_law 2558 = .ok (.iadd, 1) := db_96 (bt_of (i := 62) lb_39 rfl rfl (by decide))
theorem dL_law_2559 : decode cL_law 2559 = .ok (.iaload, 1) := db_46 (bt_of (i := 63) lb_39 rfl rfl (by decide))
theorem dL_law_2560 : decode cL_law 2560 = .ok (.i2c, 1) := db_146 (bt_of (i := 0) lb_40 rfl rfl (by decide))
theorem dL_law_2561 : decode cL_law 2561 = .ok (.aload_n 3, 1) := db_45 (bt_of (i := 1) lb_40 rfl rfl (by decide))
theorem dL_law_2562 : decode cL_law 2562 = .ok (.invokestatic 284, 3) := db_184 (bt_of (i := 2) lb_40 rfl rfl (by decide)) (bt_of (i := 3) lb_40 rfl rfl (by decide)) (bt_of (i := 4) lb_40 rfl rfl (by decide))
theorem dL_law_2565 : decode cL_law 2565 = .ok (.istore 5, 2) := db_54 (bt_of (i := 5) lb_40 rfl rfl (by decide)) (bt_of (i := 6) lb_40 rfl rfl (by decide))
theorem dL_law_2567 : decode cL_law 2567 = .ok (.aload_n 2, 1) := db_44 (bt_of (i := 7) lb_40 rfl rfl (by decide))
theorem dL_law_2568 : decode cL_law 2568 = .ok (.aload_n 0, 1) := db_42 (bt_of (i := 8) lb_40 rfl rfl (by decide))
theorem dL_law_2569 : decode cL_law 2569 = .ok (.iload 4, 2) := db_21 (bt_of (i := 9) lb_40 rfl rfl (by decide)) (bt_of (i := 10) lb_40 rfl rfl (by decide))
theorem dL_law_2571 : decode cL_law 2571 = .ok (.iconst 1, 1) := db_4 (bt_of (i := 11) lb_40 rfl rfl (by decide))
theorem dL_law_2572 : decode cL_law 2572 = .ok (.iadd, 1) := db_96 (bt_of (i := 12) lb_40 rfl rfl (by decide))
theorem dL_law_2573 : decode cL_law 2573 = .ok (.iaload, 1) := db_46 (bt_of (i := 13) lb_40 rfl rfl (by decide))
theorem dL_law_2574 : decode cL_law 2574 = .ok (.i2l, 1) := db_133 (bt_of (i := 14) lb_40 rfl rfl (by decide))
theorem dL_law_2575 : decode cL_law 2575 = .ok (.bipush 32, 2) := db_16 (bt_of (i := 15) lb_40 rfl rfl (by decide)) (bt_of (i := 16) lb_40 rfl rfl (by decide))
theorem dL_law_2577 : decode cL_law 2577 = .ok (.lshl, 1) := db_121 (bt_of (i := 17) lb_40 rfl rfl (by decide))
theorem dL_law_2578 : decode cL_law 2578 = .ok (.aload_n 0, 1) := db_42 (bt_of (i := 18) lb_40 rfl rfl (by decide))
theorem dL_law_2579 : decode cL_law 2579 = .ok (.iload 4, 2) := db_21 (bt_of (i := 19) lb_40 rfl rfl (by decide)) (bt_of (i := 20) lb_40 rfl rfl (by decide))
theorem dL_law_2581 : decode cL_law 2581 = .ok (.iconst 2, 1) := db_5 (bt_of (i := 21) lb_40 rfl rfl (by decide))
theorem dL_law_2582 : decode cL_law 2582 = .ok (.iadd, 1) := db_96 (bt_of (i := 22) lb_40 rfl rfl (by decide))
theorem dL_law_2583 : decode cL_law 2583 = .ok (.iaload, 1) := db_46 (bt_of (i := 23) lb_40 rfl rfl (by decide))
theorem dL_law_2584 : decode cL_law 2584 = .ok (.i2l, 1) := db_133 (bt_of (i := 24) lb_40 rfl rfl (by decide))
theorem dL_law_2585 : decode cL_law 2585 = .ok (.ldc2_w 171, 3) := db_20 (bt_of (i := 25) lb_40 rfl rfl (by decide)) (bt_of (i := 26) lb_40 rfl rfl (by decide)) (bt_of (i := 27) lb_40 rfl rfl (by decide))
theorem dL_law_2588 : decode cL_law 2588 = .ok (.land, 1) := db_127 (bt_of (i := 28) lb_40 rfl rfl (by decide))
theorem dL_law_2589 : decode cL_law 2589 = .ok (.lor, 1) := db_129 (bt_of (i := 29) lb_40 rfl rfl (by decide))
theorem dL_law_2590 : decode cL_law 2590 = .ok (.aload_n 0, 1) := db_42 (bt_of (i := 30) lb_40 rfl rfl (by decide))
theorem dL_law_2591 : decode cL_law 2591 = .ok (.iload 4, 2) := db_21 (bt_of (i := 31) lb_40 rfl rfl (by decide)) (bt_of (i := 32) lb_40 rfl rfl (by decide))
theorem dL_law_2593 : decode cL_law 2593 = .ok (.iconst 3, 1) := db_6 (bt_of (i := 33) lb_40 rfl rfl (by decide))
theorem dL_law_2594 : decode cL_law 2594 = .ok (.iadd, 1) := db_96 (bt_of (i := 34) lb_40 rfl rfl (by decide))
theorem dL_law_2595 : decode cL_law 2595 = .ok (.iaload, 1) := db_46 (bt_of (i := 35) lb_40 rfl rfl (by decide))
theorem dL_law_2596 : decode cL_law 2596 = .ok (.i2c, 1) := db_146 (bt_of (i := 36) lb_40 rfl rfl (by decide))
theorem dL_law_2597 : decode cL_law 2597 = .ok (.invokevirtual 287, 3) := db_182 (bt_of (i := 37) lb_40 rfl rfl (by decide)) (bt_of (i := 38) lb_40 rfl rfl (by decide)) (bt_of (i := 39) lb_40 rfl rfl (by decide))
theorem dL_law_2600 : decode cL_law 2600 = .ok (.istore 6, 2) := db_54 (bt_of (i := 40) lb_40 rfl rfl (by decide)) (bt_of (i := 41) lb_40 rfl rfl (by decide))
theorem dL_law_2602 : decode cL_law 2602 = .ok (.aload_n 2, 1) := db_44 (bt_of (i := 42) lb_40 rfl rfl (by decide))
theorem dL_law_2603 : decode cL_law 2603 = .ok (.invokevirtual 179, 3) := db_182 (bt_of (i := 43) lb_40 rfl rfl (by decide)) (bt_of (i := 44) lb_40 rfl rfl (by decide)) (bt_of (i := 45) lb_40 rfl rfl (by decide))
theorem dL_law_2606 : decode cL_law 2606 = .ok (.iload 5, 2) := db_21 (bt_of (i := 46) lb_40 rfl rfl (by decide)) (bt_of (i := 47) lb_40 rfl rfl (by decide))
theorem dL_law_2608 : decode cL_law 2608 = .ok (.if_icmp .eq 5, 3) := db_159 (bt_of (i := 48) lb_40 rfl rfl (by decide)) (bt_of (i := 49) lb_40 rfl rfl (by decide)) (bt_of (i := 50) lb_40 rfl rfl (by decide)) (by decide +kernel)
theorem dL_law_2611 : decode cL_law 2611 = .ok (.iconst 0, 1) := db_3 (bt_of (i := 51) lb_40 rfl rfl (by decide))
theorem dL_law_2612 : decode cL_law 2612 = .ok (.ireturn, 1) := db_172 (bt_of (i := 52) lb_40 rfl rfl (by decide))
theorem dL_law_2613 : decode cL_law 2613 = .ok (.iload 5, 2) := db_21 (bt_of (i := 53) lb_40 rfl rfl (by decide)) (bt_of (i := 54) lb_40 rfl rfl (by decide))
theorem dL_law_2615 : decode cL_law 2615 = .ok (.ifCond .ne 15, 3) := db_154 (bt_of (i := 55) lb_40 rfl rfl (by decide)) (bt_of (i := 56) lb_40 rfl rfl (by decide)) (bt_of (i := 57) lb_40 rfl rfl (by decide)) (by decide +kernel)
theorem dL_law_2618 : decode cL_law 2618 = .ok (.aload_n 3, 1) := db_45 (bt_of (i := 58) lb_40 rfl rfl (by decide))
theorem dL_law_2619 : decode cL_law 2619 = .ok (.iconst 0, 1) := db_3 (bt_of (i := 59) lb_40 rfl rfl (by decide))
theorem dL_law_2620 : decode cL_law 2620 = .ok (.laload, 1) := db_47 (bt_of (i := 60) lb_40 rfl rfl (by decide))
theorem dL_law_2621 : decode cL_law 2621 = .ok (.iload 6, 2) := db_21 (bt_of (i := 61) lb_40 rfl rfl (by decide)) (bt_of (i := 62) lb_40 rfl rfl (by decide))
theorem dL_law_2623 : decode cL_law 2623 = .ok (.i2l, 1) := db_133 (bt_of (i := 63) lb_40 rfl rfl (by decide))
theorem dL_law_2624 : decode cL_law 2624 = .ok (.lcmp, 1) := db_148 (bt_of (i := 0) lb_41 rfl rfl (by decide))
theorem dL_law_2625 : decode cL_law 2625 = .ok (.ifCond .eq 5, 3) := db_153 (bt_of (i := 1) lb_41 rfl rfl (by decide)) (bt_of (i := 2) lb_41 rfl rfl (by decide)) (bt_of (i := 3) lb_41 rfl rfl (by decide)) (by decide +kernel)
theorem dL_law_2628 : decode cL_law 2628 = .ok (.iconst 0, 1) := db_3 (bt_of (i := 4) lb_41 rfl rfl (by decide))
theorem dL_law_2629 : decode cL_law 2629 = .ok (.ireturn, 1) := db_172 (bt_of (i := 5) lb_41 rfl rfl (by decide))
theorem dL_law_2630 : decode cL_law 2630 = .ok (.goto 917, 3) := db_167 (bt_of (i := 6) lb_41 rfl rfl (by decide)) (bt_of (i := 7) lb_41 rfl rfl (by decide)) (bt_of (i := 8) lb_41 rfl rfl (by decide)) (by decide +kernel)
theorem dL_law_2633 : decode cL_law 2633 = .ok (.aload_n 1, 1) := db_43 (bt_of (i := 9) lb_41 rfl rfl (by decide))
theorem dL_law_2634 : decode cL_law 2634 = .ok (.aload_n 0, 1) := db_42 (bt_of (i := 10) lb_41 rfl rfl (by decide))
theorem dL_law_2635 : decode cL_law 2635 = .ok (.iload 4, 2) := db_21 (bt_of (i := 11) lb_41 rfl rfl (by decide)) (bt_of (i := 12) lb_41 rfl rfl (by decide))
theorem dL_law_2637 : decode cL_law 2637 = .ok (.iconst 1, 1) := db_4 (bt_of (i := 13) lb_41 rfl rfl (by decide))
theorem dL_law_2638 : decode cL_law 2638 = .ok (.iadd, 1) := db_96 (bt_of (i := 14) lb_41 rfl rfl (by decide))
theorem dL_law_2639 : decode cL_law 2639 = .ok (.iaload, 1) := db_46 (bt_of (i := 15) lb_41 rfl rfl (by decide))
theorem dL_law_2640 : decode cL_law 2640 = .ok (.aload_n 3, 1) := db_45 (bt_of (i := 16) lb_41 rfl rfl (by decide))
theorem dL_law_2641 : decode cL_law 2641 = .ok (.invokestatic 288, 3) := db_184 (bt_of (i := 17) lb_41 rfl rfl (by decide)) (bt_of (i := 18) lb_41 rfl rfl (by decide)) (bt_of (i := 19) lb_41 rfl rfl (by decide))
theorem dL_law_2644 : decode cL_law 2644 = .ok (.istore 5, 2) := db_54 (bt_of (i := 20) lb_41 rfl rfl (by decide)) (bt_of (i := 21) lb_41 rfl rfl (by decide))
theorem dL_law_2646 : decode cL_law 2646 = .ok (.aload_n 2, 1) := db_44 (bt_of (i := 22) lb_41 rfl rfl (by decide))
theorem dL_law_2647 : decode cL_law 2647 = .ok (.aload_n 0, 1) := db_42 (bt_of (i := 23) lb_41 rfl rfl (by decide))
theorem dL_law_2648 : decode cL_law 2648 = .ok (.iload 4, 2) := db_21 (bt_of (i := 24) lb_41 rfl rfl (by decide)) (bt_of (i := 25) lb_41 rfl rfl (by decide))
theorem dL_law_2650 : decode cL_law 2650 = .ok (.iconst 1, 1) := db_4 (bt_of (i := 26) lb_41 rfl rfl (by decide))
theorem dL_law_2651 : decode cL_law 2651 = .ok (.iadd, 1) := db_96 (bt_of (i := 27) lb_41 rfl rfl (by decide))
theorem dL_law_2652 : decode cL_law 2652 = .ok (.iaload, 1) := db_46 (bt_of (i := 28) lb_41 rfl rfl (by decide))
theorem dL_law_2653 : decode cL_law 2653 = .ok (.invokevirtual 290, 3) := db_182 (bt_of (i := 29) lb_41 rfl rfl (by decide)) (bt_of (i := 30) lb_41 rfl rfl (by decide)) (bt_of (i := 31) lb_41 rfl rfl (by decide))
theorem dL_law_2656 : decode cL_law 2656 = .ok (.lstore 6, 2) := db_55 (bt_of (i := 32) lb_41 rfl rfl (by decide)) (bt_of (i := 33) lb_41 rfl rfl (by decide))
theorem dL_law_2658 : decode cL_law 2658 = .ok (.aload_n 2, 1) := db_44 (bt_of (i := 34) lb_41 rfl rfl (by decide))
theorem dL_law_2659 : decode cL_law 2659 = .ok (.invokevirtual 179, 3) := db_182 (bt_of (i := 35) lb_41 rfl rfl (by decide)) (bt_of (i := 36) lb_41 rfl rfl (by decide)) (bt_of (i := 37) lb_41 rfl rfl (by decide))
theorem dL_law_2662 : decode cL_law 2662 = .ok (.iload 5, 2) := db_21 (bt_of (i := 38) lb_41 rfl rfl (by decide)) (bt_of (i := 39) lb_41 rfl rfl (by decide))
theorem dL_law_2664 : decode cL_law 2664 = .ok (.if_icmp .eq 5, 3) := db_159 (bt_of (i := 40) lb_41 rfl rfl (by decide)) (bt_of (i := 41) lb_41 rfl rfl (by decide)) (bt_of (i := 42) lb_41 rfl rfl (by decide)) (by decide +kernel)
theorem dL_law_2667 : decode cL_law 2667 = .ok (.iconst 0, 1) := db_3 (bt_of (i := 43) lb_41 rfl rfl (by decide))
theorem dL_law_2668 : decode cL_law 2668 = .ok (.ireturn, 1) := db_172 (bt_of (i := 44) lb_41 rfl rfl (by decide))
theorem dL_law_2669 : decode cL_law 2669 = .ok (.iload 5, 2) := db_21 (bt_of (i := 45) lb_41 rfl rfl (by decide)) (bt_of (i := 46) lb_41 rfl rfl (by decide))
theorem dL_law_2671 : decode cL_law 2671 = .ok (.ifCond .ne 14, 3) := db_154 (bt_of (i := 47) lb_41 rfl rfl (by decide)) (bt_of (i := 48) lb_41 rfl rfl (by decide)) (bt_of (i := 49) lb_41 rfl rfl (by decide)) (by decide +kernel)
theorem dL_law_2674 : decode cL_law 2674 = .ok (.aload_n 3, 1) := db_45 (bt_of (i := 50) lb_41 rfl rfl (by decide))
theorem dL_law_2675 : decode cL_law 2675 = .ok (.iconst 0, 1) := db_3 (bt_of (i := 51) lb_41 rfl rfl (by decide))
theorem dL_law_2676 : decode cL_law 2676 = .ok (.laload, 1) := db_47 (bt_of (i := 52) lb_41 rfl rfl (by decide))
theorem dL_law_2677 : decode cL_law 2677 = .ok (.lload 6, 2) := db_22 (bt_of (i := 53) lb_41 rfl rfl (by decide)) (bt_of (i := 54) lb_41 rfl rfl (by decide))
theorem dL_law_2679 : decode cL_law 2679 = .ok (.lcmp, 1) := db_148 (bt_of (i := 55) lb_41 rfl rfl (by decide))
theorem dL_law_2680 : decode cL_law 2680 = .ok (.ifCond .eq 5, 3) := db_153 (bt_of (i := 56) lb_41 rfl rfl (by decide)) (bt_of (i := 57) lb_41 rfl rfl (by decide)) (bt_of (i := 58) lb_41 rfl rfl (by decide)) (by decide +kernel)
theorem dL_law_2683 : decode cL_law 2683 = .ok (.iconst 0, 1) := db_3 (bt_of (i := 59) lb_41 rfl rfl (by decide))
theorem dL_law_2684 : decode cL_law 2684 = .ok (.ireturn, 1) := db_172 (bt_of (i := 60) lb_41 rfl rfl (by decide))
theorem dL_law_2685 : decode cL_law 2685 = .ok (.goto 862, 3) := db_167 (bt_of (i := 61) lb_41 rfl rfl (by decide)) (bt_of (i := 62) lb_41 rfl rfl (by decide)) (bt_of (i := 63) lb_41 rfl rfl (by decide)) (by decide +kernel)
theorem dL_law_2688 : decode cL_law 2688 = .ok (.aload_n 1, 1) := db_43 (bt_of (i := 0) lb_42 rfl rfl (by decide))
theorem dL_law_2689 : decode cL_law 2689 = .ok (.aload_n 0, 1) := db_42 (bt_of (i := 1) lb_42 rfl rfl (by decide))
theorem dL_law_2690 : decode cL_law 2690 = .ok (.iload 4, 2) := db_21 (bt_of (i := 2) lb_42 rfl rfl (by decide)) (bt_of (i := 3) lb_42 rfl rfl (by decide))
theorem dL_law_2692 : decode cL_law 2692 = .ok (.iconst 1, 1) := db_4 (bt_of (i := 4) lb_42 rfl rfl (by decide))
theorem dL_law_2693 : decode cL_law 2693 = .ok (.iadd, 1) := db_96 (bt_of (i := 5) lb_42 rfl rfl (by decide))
theorem dL_law_2694 : decode cL_law 2694 = .ok (.iaload, 1) := db_46 (bt_of (i := 6) lb_42 rfl rfl (by decide))
theorem dL_law_2695 : decode cL_law 2695 = .ok (.i2l, 1) := db_133 (bt_of (i := 7) lb_42 rfl rfl (by decide))
theorem dL_law_2696 : decode cL_law 2696 = .ok (.bipush 32, 2) := db_16 (bt_of (i := 8) lb_42 rfl rfl (by decide)) (bt_of (i := 9) lb_42 rfl rfl (by decide))
theorem dL_law_2698 : decode cL_law 2698 = .ok (.lshl, 1) := db_121 (bt_of (i := 10) lb_42 rfl rfl (by decide))
theorem dL_law_2699 : decode cL_law 2699 = .ok (.aload_n 0, 1) := db_42 (bt_of (i := 11) lb_42 rfl rfl (by decide))
theorem dL_law_2700 : decode cL_law 2700 = .ok (.iload 4, 2) := db_21 (bt_of (i := 12) lb_42 rfl rfl (by decide)) (bt_of (i := 13) lb_42 rfl rfl (by decide))
theorem dL_law_2702 : decode cL_law 2702 = .ok (.iconst 2, 1) := db_5 (bt_of (i := 14) lb_42 rfl rfl (by decide))
theorem dL_law_2703 : decode cL_law 2703 = .ok (.iadd, 1) := db_96 (bt_of (i := 15) lb_42 rfl rfl (by decide))
theorem dL_law_2704 : decode cL_law 2704 = .ok (.iaload, 1) := db_46 (bt_of (i := 16) lb_42 rfl rfl (by decide))
theorem dL_law_2705 : decode cL_law 2705 = .ok (.i2l, 1) := db_133 (bt_of (i := 17) lb_42 rfl rfl (by decide))
theorem dL_law_2706 : decode cL_law 2706 = .ok (.ldc2_w 171, 3) := db_20 (bt_of (i := 18) lb_42 rfl rfl (by decide)) (bt_of (i := 19) lb_42 rfl rfl (by decide)) (bt_of (i := 20) lb_42 rfl rfl (by decide))
theorem dL_law_2709 : decode cL_law 2709 = .ok (.land, 1) := db_127 (bt_of (i := 21) lb_42 rfl rfl (by decide))
theorem dL_law_2710 : decode cL_law 2710 = .ok (.lor, 1) := db_129 (bt_of (i := 22) lb_42 rfl rfl (by decide))
theorem dL_law_2711 : decode cL_law 2711 = .ok (.aload_n 0, 1) := db_42 (bt_of (i := 23) lb_42 rfl rfl (by decide))
theorem dL_law_2712 : decode cL_law 2712 = .ok (.iload 4, 2) := db_21 (bt_of (i := 24) lb_42 rfl rfl (by decide)) (bt_of (i := 25) lb_42 rfl rfl (by decide))
theorem dL_law_2714 : decode cL_law 2714 = .ok (.iconst 3, 1) := db_6 (bt_of (i := 26) lb_42 rfl rfl (by decide))
theorem dL_law_2715 : decode cL_law 2715 = .ok (.iadd, 1) := db_96 (bt_of (i := 27) lb_42 rfl rfl (by decide))
theorem dL_law_2716 : decode cL_law 2716 = .ok (.iaload, 1) := db_46 (bt_of (i := 28) lb_42 rfl rfl (by decide))
theorem dL_law_2717 : decode cL_law 2717 = .ok (.aload_n 0, 1) := db_42 (bt_of (i := 29) lb_42 rfl rfl (by decide))
theorem dL_law_2718 : decode cL_law 2718 = .ok (.iload 4, 2) := db_21 (bt_of (i := 30) lb_42 rfl rfl (by decide)) (bt_of (i := 31) lb_42 rfl rfl (by decide))
theorem dL_law_2720 : decode cL_law 2720 = .ok (.iconst 4, 1) := db_7 (bt_of (i := 32) lb_42 rfl rfl (by decide))
theorem dL_law_2721 : decode cL_law 2721 = .ok (.iadd, 1) := db_96 (bt_of (i := 33) lb_42 rfl rfl (by decide))
theorem dL_law_2722 : decode cL_law 2722 = .ok (.iaload, 1) := db_46 (bt_of (i := 34) lb_42 rfl rfl (by decide))
theorem dL_law_2723 : decode cL_law 2723 = .ok (.aload_n 0, 1) := db_42 (bt_of (i := 35) lb_42 rfl rfl (by decide))
theorem dL_law_2724 : decode cL_law 2724 = .ok (.iload 4, 2) := db_21 (bt_of (i := 36) lb_42 rfl rfl (by decide)) (bt_of (i := 37) lb_42 rfl rfl (by decide))
theorem dL_law_2726 : decode cL_law 2726 = .ok (.iconst 5, 1) := db_8 (bt_of (i := 38) lb_42 rfl rfl (by decide))
theorem dL_law_2727 : decode cL_law 2727 = .ok (.iadd, 1) := db_96 (bt_of (i := 39) lb_42 rfl rfl (by decide))
theorem dL_law_2728 : decode cL_law 2728 = .ok (.iaload, 1) := db_46 (bt_of (i := 40) lb_42 rfl rfl (by decide))
theorem dL_law_2729 : decode cL_law 2729 = .ok (.aload_n 0, 1) := db_42 (bt_of (i := 41) lb_42 rfl rfl (by decide))
theorem dL_law_2730 : decode cL_law 2730 = .ok (.iload 4, 2) := db_21 (bt_of (i := 42) lb_42 rfl rfl (by decide)) (bt_of (i := 43) lb_42 rfl rfl (by decide))
theorem dL_law_2732 : decode cL_law 2732 = .ok (.bipush 6, 2) := db_16 (bt_of (i := 44) lb_42 rfl rfl (by decide)) (bt_of (i := 45) lb_42 rfl rfl (by decide))
theorem dL_law_2734 : decode cL_law 2734 = .ok (.iadd, 1) := db_96 (bt_of (i := 46) lb_42 rfl rfl (by decide))
theorem dL_law_2735 : decode cL_law 2735 = .ok (.iaload, 1) := db_46 (bt_of (i := 47) lb_42 rfl rfl (by decide))
theorem dL_law_2736 : decode cL_law 2736 = .ok (.i2c, 1) := db_146 (bt_of (i := 48) lb_42 rfl rfl (by decide))
theorem dL_law_2737 : decode cL_law 2737 = .ok (.aload_n 3, 1) := db_45 (bt_of (i := 49) lb_42 rfl rfl (by decide))
theorem dL_law_2738 : decode cL_law 2738 = .ok (.invokestatic 291, 3) := db_184 (bt_of (i := 50) lb_42 rfl rfl (by decide)) (bt_of (i := 51) lb_42 rfl rfl (by decide)) (bt_of (i := 52) lb_42 rfl rfl (by decide))
theorem dL_law_2741 : decode cL_law 2741 = .ok (.istore 5, 2) := db_54 (bt_of (i := 53) lb_42 rfl rfl (by decide)) (bt_of (i := 54) lb_42 rfl rfl (by decide))
theorem dL_law_2743 : decode cL_law 2743 = .ok (.aload_n 2, 1) := db_44 (bt_of (i := 55) lb_42 rfl rfl (by decide))
theorem dL_law_2744 : decode cL_law 2744 = .ok (.aload_n 0, 1) := db_42 (bt_of (i := 56) lb_42 rfl rfl (by decide))
theorem dL_law_2745 : decode cL_law 2745 = .ok (.iload 4, 2) := db_21 (bt_of (i := 57) lb_42 rfl rfl (by decide)) (bt_of (i := 58) lb_42 rfl rfl (by decide))
theorem dL_law_2747 : decode cL_law 2747 = .ok (.iconst 1, 1) := db_4 (bt_of (i := 59) lb_42 rfl rfl (by decide))
theorem dL_law_2748 : decode cL_law 2748 = .ok (.iadd, 1) := db_96 (bt_of (i := 60) lb_42 rfl rfl (by decide))
theorem dL_law_2749 : decode cL_law 2749 = .ok (.iaload, 1) := db_46 (bt_of (i := 61) lb_42 rfl rfl (by decide))
theorem dL_law_2750 : decode cL_law 2750 = .ok (.i2l, 1) := db_133 (bt_of (i := 62) lb_42 rfl rfl (by decide))
theorem dL_law_2751 : decode cL_law 2751 = .ok (.bipush 32, 2) := db_16 (bt_of (i := 63) lb_42 rfl rfl (by decide)) (bt_of (i := 0) lb_43 rfl rfl (by decide))
theorem dL_law_2753 : decode cL_law 2753 = .ok (.lshl, 1) := db_121 (bt_of (i := 1) lb_43 rfl rfl (by decide))
theorem dL_law_2754 : decode cL_law 2754 = .ok (.aload_n 0, 1) := db_42 (bt_of (i := 2) lb_43 rfl rfl (by decide))
theorem dL_law_2755 : decode cL_law 2755 = .ok (.iload 4, 2) := db_21 (bt_of (i := 3) lb_43 rfl rfl (by decide)) (bt_of (i := 4) lb_43 rfl rfl (by decide))
theorem dL_law_2757 : decode cL_law 2757 = .ok (.iconst 2, 1) := db_5 (bt_of (i := 5) lb_43 rfl rfl (by decide))
theorem dL_law_2758 : decode cL_law 2758 = .ok (.iadd, 1) := db_96 (bt_of (i := 6) lb_43 rfl rfl (by decide))
theorem dL_law_2759 : decode cL_law 2759 = .ok (.iaload, 1) := db_46 (bt_of (i := 7) lb_43 rfl rfl (by decide))
theorem dL_law_2760 : decode cL_law 2760 = .ok (.i2l, 1) := db_133 (bt_of (i := 8) lb_43 rfl rfl (by decide))
theorem dL_law_2761 : decode cL_law 2761 = .ok (.ldc2_w 171, 3) := db_20 (bt_of (i := 9) lb_43 rfl rfl (by decide)) (bt_of (i := 10) lb_43 rfl rfl (by decide)) (bt_of (i := 11) lb_43 rfl rfl (by decide))
theorem dL_law_2764 : decode cL_law 2764 = .ok (.land, 1) := db_127 (bt_of (i := 12) lb_43 rfl rfl (by decide))
theorem dL_law_2765 : decode cL_law 2765 = .ok (.lor, 1) := db_129 (bt_of (i := 13) lb_43 rfl rfl (by decide))
theorem dL_law_2766 : decode cL_law 2766 = .ok (.aload_n 0, 1) := db_42 (bt_of (i := 14) lb_43 rfl rfl (by decide))
theorem dL_law_2767 : decode cL_law 2767 = .ok (.iload 4, 2) := db_21 (bt_of (i := 15) lb_43 rfl rfl (by decide)) (bt_of (i := 16) lb_43 rfl rfl (by decide))
theorem dL_law_2769 : decode cL_law 2769 = .ok (.iconst 3, 1) := db_6 (bt_of (i := 17) lb_43 rfl rfl (by decide))
theorem dL_law_2770 : decode cL_law 2770 = .ok (.iadd, 1) := db_96 (bt_of (i := 18) lb_43 rfl rfl (by decide))
theorem dL_law_2771 : decode cL_law 2771 = .ok (.iaload, 1) := db_46 (bt_of (i := 19) lb_43 rfl rfl (by decide))
theorem dL_law_2772 : decode cL_law 2772 = .ok (.aload_n 0, 1) := db_42 (bt_of (i := 20) lb_43 rfl rfl (by decide))
theorem dL_law_2773 : decode cL_law 2773 = .ok (.iload 4, 2) := db_21 (bt_of (i := 21) lb_43 rfl rfl (by decide)) (bt_of (i := 22) lb_43 rfl rfl (by decide))
theorem dL_law_2775 : decode cL_law 2775 = .ok (.iconst 4, 1) := db_7 (bt_of (i := 23) lb_43 rfl rfl (by decide))
theorem dL_law_2776 : decode cL_law 2776 = .ok (.iadd, 1) := db_96 (bt_of (i := 24) lb_43 rfl rfl (by decide))
theorem dL_law_2777 : decode cL_law 2777 = .ok (.iaload, 1) := db_46 (bt_of (i := 25) lb_43 rfl rfl (by decide))
theorem dL_law_2778 : decode cL_law 2778 = .ok (.aload_n 0, 1) := db_42 (bt_of (i := 26) lb_43 rfl rfl (by decide))
theorem dL_law_2779 : decode cL_law 2779 = .ok (.iload 4, 2) := db_21 (bt_of (i := 27) lb_43 rfl rfl (by decide)) (bt_of (i := 28) lb_43 rfl rfl (by decide))
theorem dL_law_2781 : decode cL_law 2781 = .ok (.iconst 5, 1) := db_8 (bt_of (i := 29) lb_43 rfl rfl (by decide))
theorem dL_law_2782 : decode cL_law 2782 = .ok (.iadd, 1) := db_96 (bt_of (i := 30) lb_43 rfl rfl (by decide))
theorem dL_law_2783 : decode cL_law 2783 = .ok (.iaload, 1) := db_46 (bt_of (i := 31) lb_43 rfl rfl (by decide))
theorem dL_law_2784 : decode cL_law 2784 = .ok (.aload_n 0, 1) := db_42 (bt_of (i := 32) lb_43 rfl rfl (by decide))
theorem dL_law_2785 : decode cL_law 2785 = .ok (.iload 4, 2) := db_21 (bt_of (i := 33) lb_43 rfl rfl (by decide)) (bt_of (i := 34) lb_43 rfl rfl (by decide))
theorem dL_law_2787 : decode cL_law 2787 = .ok (.bipush 6, 2) := db_16 (bt_of (i := 35) lb_43 rfl rfl (by decide)) (bt_of (i := 36) lb_43 rfl rfl (by decide))
theorem dL_law_2789 : decode cL_law 2789 = .ok (.iadd, 1) := db_96 (bt_of (i := 37) lb_43 rfl rfl (by decide))
theorem dL_law_2790 : decode cL_law 2790 = .ok (.iaload, 1) := db_46 (bt_of (i := 38) lb_43 rfl rfl (by decide))
theorem dL_law_2791 : decode cL_law 2791 = .ok (.i2c, 1) := db_146 (bt_of (i := 39) lb_43 rfl rfl (by decide))
theorem dL_law_2792 : decode cL_law 2792 = .ok (.invokevirtual 294, 3) := db_182 (bt_of (i := 40) lb_43 rfl rfl (by decide)) (bt_of (i := 41) lb_43 rfl rfl (by decide)) (bt_of (i := 42) lb_43 rfl rfl (by decide))
theorem dL_law_2795 : decode cL_law 2795 = .ok (.lstore 6, 2) := db_55 (bt_of (i := 43) lb_43 rfl rfl (by decide)) (bt_of (i := 44) lb_43 rfl rfl (by decide))
theorem dL_law_2797 : decode cL_law 2797 = .ok (.aload_n 2, 1) := db_44 (bt_of (i := 45) lb_43 rfl rfl (by decide))
theorem dL_law_2798 : decode cL_law 2798 = .ok (.invokevirtual 179, 3) := db_182 (bt_of (i := 46) lb_43 rfl rfl (by decide)) (bt_of (i := 47) lb_43 rfl rfl (by decide)) (bt_of (i := 48) lb_43 rfl rfl (by decide))
theorem dL_law_2801 : decode cL_law 2801 = .ok (.iload 5, 2) := db_21 (bt_of (i := 49) lb_43 rfl rfl (by decide)) (bt_of (i := 50) lb_43 rfl rfl (by decide))
theorem dL_law_2803 : decode cL_law 2803 = .ok (.if_icmp .eq 5, 3) := db_159 (bt_of (i := 51) lb_43 rfl rfl (by decide)) (bt_of (i := 52) lb_43 rfl rfl (by decide)) (bt_of (i := 53) lb_43 rfl rfl (by decide)) (by decide +kernel)
theorem dL_law_2806 : decode cL_law 2806 = .ok (.iconst 0, 1) := db_3 (bt_of (i := 54) lb_43 rfl rfl (by decide))
theorem dL_law_2807 : decode cL_law 2807 = .ok (.ireturn, 1) := db_172 (bt_of (i := 55) lb_43 rfl rfl (by decide))
theorem dL_law_2808 : decode cL_law 2808 = .ok (.iload 5, 2) := db_21 (bt_of (i := 56) lb_43 rfl rfl (by decide)) (bt_of (i := 57) lb_43 rfl rfl (by decide))
theorem dL_law_2810 : decode cL_law 2810 = .ok (.ifCond .ne 14, 3) := db_154 (bt_of (i := 58) lb_43 rfl rfl (by decide)) (bt_of (i := 59) lb_43 rfl rfl (by decide)) (bt_of (i := 60) lb_43 rfl rfl (by decide)) (by decide +kernel)
theorem dL_law_2813 : decode cL_law 2813 = .ok (.aload_n 3, 1) := db_45 (bt_of (i := 61) lb_43 rfl rfl (by decide))
theorem dL_law_2814 : decode cL_law 2814 = .ok (.iconst 0, 1) := db_3 (bt_of (i := 62) lb_43 rfl rfl (by decide))
theorem dL_law_2815 : decode cL_law 2815 = .ok (.laload, 1) := db_47 (bt_of (i := 63) lb_43 rfl rfl (by decide))
theorem dL_law_2816 : decode cL_law 2816 = .ok (.lload 6, 2) := db_22 (bt_of (i := 0) lb_44 rfl rfl (by decide)) (bt_of (i := 1) lb_44 rfl rfl (by decide))
theorem dL_law_2818 : decode cL_law 2818 = .ok (.lcmp, 1) := db_148 (bt_of (i := 2) lb_44 rfl rfl (by decide))
theorem dL_law_2819 : decode cL_law 2819 = .ok (.ifCond .eq 5, 3) := db_153 (bt_of (i := 3) lb_44 rfl rfl (by decide)) (bt_of (i := 4) lb_44 rfl rfl (by decide)) (bt_of (i := 5) lb_44 rfl rfl (by decide)) (by decide +kernel)
theorem dL_law_2822 : decode cL_law 2822 = .ok (.iconst 0, 1) := db_3 (bt_of (i := 6) lb_44 rfl rfl (by decide))
theorem dL_law_2823 : decode cL_law 2823 = .ok (.ireturn, 1) := db_172 (bt_of (i := 7) lb_44 rfl rfl (by decide))
theorem dL_law_2824 : decode cL_law 2824 = .ok (.goto 723, 3) := db_167 (bt_of (i := 8) lb_44 rfl rfl (by decide)) (bt_of (i := 9) lb_44 rfl rfl (by decide)) (bt_of (i := 10) lb_44 rfl rfl (by decide)) (by decide +kernel)
theorem dL_law_2827 : decode cL_law 2827 = .ok (.aload_n 1, 1) := db_43 (bt_of (i := 11) lb_44 rfl rfl (by decide))
theorem dL_law_2828 : decode cL_law 2828 = .ok (.aload_n 0, 1) := db_42 (bt_of (i := 12) lb_44 rfl rfl (by decide))
theorem dL_law_2829 : decode cL_law 2829 = .ok (.iload 4, 2) := db_21 (bt_of (i := 13) lb_44 rfl rfl (by decide)) (bt_of (i := 14) lb_44 rfl rfl (by decide))
theorem dL_law_2831 : decode cL_law 2831 = .ok (.iconst 1, 1) := db_4 (bt_of (i := 15) lb_44 rfl rfl (by decide))
theorem dL_law_2832 : decode cL_law 2832 = .ok (.iadd, 1) := db_96 (bt_of (i := 16) lb_44 rfl rfl (by decide))
theorem dL_law_2833 : decode cL_law 2833 = .ok (.iaload, 1) := db_46 (bt_of (i := 17) lb_44 rfl rfl (by decide))
theorem dL_law_2834 : decode cL_law 2834 = .ok (.i2l, 1) := db_133 (bt_of (i := 18) lb_44 rfl rfl (by decide))
theorem dL_law_2835 : decode cL_law 2835 = .ok (.bipush 32, 2) := db_16 (bt_of (i := 19) lb_44 rfl rfl (by decide)) (bt_of (i := 20) lb_44 rfl rfl (by decide))
theorem dL_law_2837 : decode cL_law 2837 = .ok (.lshl, 1) := db_121 (bt_of (i := 21) lb_44 rfl rfl (by decide))
theorem dL_law_2838 : decode cL_law 2838 = .ok (.aload_n 0, 1) := db_42 (bt_of (i := 22) lb_44 rfl rfl (by decide))
theorem dL_law_2839 : decode cL_law 2839 = .ok (.iload 4, 2) := db_21 (bt_of (i := 23) lb_44 rfl rfl (by decide)) (bt_of (i := 24) lb_44 rfl rfl (by decide))
theorem dL_law_2841 : decode cL_law 2841 = .ok (.iconst 2, 1) := db_5 (bt_of (i := 25) lb_44 rfl rfl (by decide))
theorem dL_law_2842 : decode cL_law 2842 = .ok (.iadd, 1) := db_96 (bt_of (i := 26) lb_44 rfl rfl (by decide))
theorem dL_law_2843 : decode cL_law 2843 = .ok (.iaload, 1) := db_46 (bt_of (i := 27) lb_44 rfl rfl (by decide))
theorem dL_law_2844 : decode cL_law 2844 = .ok (.i2l, 1) := db_133 (bt_of (i := 28) lb_44 rfl rfl (by decide))
theorem dL_law_2845 : decode cL_law 2845 = .ok (.ldc2_w 171, 3) := db_20 (bt_of (i := 29) lb_44 rfl rfl (by decide)) (bt_of (i := 30) lb_44 rfl rfl (by decide)) (bt_of (i := 31) lb_44 rfl rfl (by decide))
theorem dL_law_2848 : decode cL_law 2848 = .ok (.land, 1) := db_127 (bt_of (i := 32) lb_44 rfl rfl (by decide))
theorem dL_law_2849 : decode cL_law 2849 = .ok (.lor, 1) := db_129 (bt_of (i := 33) lb_44 rfl rfl (by decide))
theorem dL_law_2850 : decode cL_law 2850 = .ok (.aload_n 0, 1) := db_42 (bt_of (i := 34) lb_44 rfl rfl (by decide))
theorem dL_law_2851 : decode cL_law 2851 = .ok (.iload 4, 2) := db_21 (bt_of (i := 35) lb_44 rfl rfl (by decide)) (bt_of (i := 36) lb_44 rfl rfl (by decide))
theorem dL_law_2853 : decode cL_law 2853 = .ok (.iconst 3, 1) := db_6 (bt_of (i := 37) lb_44 rfl rfl (by decide))
theorem dL_law_2854 : decode cL_law 2854 = .ok (.iadd, 1) := db_96 (bt_of (i := 38) lb_44 rfl rfl (by decide))
theorem dL_law_2855 : decode cL_law 2855 = .ok (.iaload, 1) := db_46 (bt_of (i := 39) lb_44 rfl rfl (by decide))
theorem dL_law_2856 : decode cL_law 2856 = .ok (.aload_n 0, 1) := db_42 (bt_of (i := 40) lb_44 rfl rfl (by decide))
theorem dL_law_2857 : decode cL_law 2857 = .ok (.iload 4, 2) := db_21 (bt_of (i := 41) lb_44 rfl rfl (by decide)) (bt_of (i := 42) lb_44 rfl rfl (by decide))
theorem dL_law_2859 : decode cL_law 2859 = .ok (.iconst 4, 1) := db_7 (bt_of (i := 43) lb_44 rfl rfl (by decide))
theorem dL_law_2860 : decode cL_law 2860 = .ok (.iadd, 1) := db_96 (bt_of (i := 44) lb_44 rfl rfl (by decide))
theorem dL_law_2861 : decode cL_law 2861 = .ok (.iaload, 1) := db_46 (bt_of (i := 45) lb_44 rfl rfl (by decide))
theorem dL_law_2862 : decode cL_law 2862 = .ok (.i2l, 1) := db_133 (bt_of (i := 46) lb_44 rfl rfl (by decide))
theorem dL_law_2863 : decode cL_law 2863 = .ok (.bipush 32, 2) := db_16 (bt_of (i := 47) lb_44 rfl rfl (by decide)) (bt_of (i := 48) lb_44 rfl rfl (by decide))
theorem dL_law_2865 : decode cL_law 2865 = .ok (.lshl, 1) := db_121 (bt_of (i := 49) lb_44 rfl rfl (by decide))
theorem dL_law_2866 : decode cL_law 2866 = .ok (.aload_n 0, 1) := db_42 (bt_of (i := 50) lb_44 rfl rfl (by decide))
theorem dL_law_2867 : decode cL_law 2867 = .ok (.iload 4, 2) := db_21 (bt_of (i := 51) lb_44 rfl rfl (by decide)) (bt_of (i := 52) lb_44 rfl rfl (by decide))
theorem dL_law_2869 : decode cL_law 2869 = .ok (.iconst 5, 1) := db_8 (bt_of (i := 53) lb_44 rfl rfl (by decide))
theorem dL_law_2870 : decode cL_law 2870 = .ok (.iadd, 1) := db_96 (bt_of (i := 54) lb_44 rfl rfl (by decide))
theorem dL_law_2871 : decode cL_law 2871 = .ok (.iaload, 1) := db_46 (bt_of (i := 55) lb_44 rfl rfl (by decide))
theorem dL_law_2872 : decode cL_law 2872 = .ok (.i2l, 1) := db_133 (bt_of (i := 56) lb_44 rfl rfl (by decide))
theorem dL_law_2873 : decode cL_law 2873 = .ok (.ldc2_w 171, 3) := db_20 (bt_of (i := 57) lb_44 rfl rfl (by decide)) (bt_of (i := 58) lb_44 rfl rfl (by decide)) (bt_of (i := 59) lb_44 rfl rfl (by decide))
theorem dL_law_2876 : decode cL_law 2876 = .ok (.land, 1) := db_127 (bt_of (i := 60) lb_44 rfl rfl (by decide))
theorem dL_law_2877 : decode cL_law 2877 = .ok (.lor, 1) := db_129 (bt_of (i := 61) lb_44 rfl rfl (by decide))
theorem dL_law_2878 : decode cL_law 2878 = .ok (.aload_n 3, 1) := db_45 (bt_of (i := 62) lb_44 rfl rfl (by decide))
theorem dL_law_2879 : decode cL_law 2879 = .ok (.invokestatic 295, 3) := db_184 (bt_of (i := 63) lb_44 rfl rfl (by decide)) (bt_of (i := 0) lb_45 rfl rfl (by decide)) (bt_of (i := 1) lb_45 rfl rfl (by decide))
theorem dL_law_2882 : decode cL_law 2882 = .ok (.istore 5, 2) := db_54 (bt_of (i := 2) lb_45 rfl rfl (by decide)) (bt_of (i := 3) lb_45 rfl rfl (by decide))
theorem dL_law_2884 : decode cL_law 2884 = .ok (.aload_n 2, 1) := db_44 (bt_of (i := 4) lb_45 rfl rfl (by decide))
theorem dL_law_2885 : decode cL_law 2885 = .ok (.aload_n 0, 1) := db_42 (bt_of (i := 5) lb_45 rfl rfl (by decide))
theorem dL_law_2886 : decode cL_law 2886 = .ok (.iload 4, 2) := db_21 (bt_of (i := 6) lb_45 rfl rfl (by decide)) (bt_of (i := 7) lb_45 rfl rfl (by decide))
theorem dL_law_2888 : decode cL_law 2888 = .ok (.iconst 1, 1) := db_4 (bt_of (i := 8) lb_45 rfl rfl (by decide))
theorem dL_law_2889 : decode cL_law 2889 = .ok (.iadd, 1) := db_96 (bt_of (i := 9) lb_45 rfl rfl (by decide))
theorem dL_law_2890 : decode cL_law 2890 = .ok (.iaload, 1) := db_46 (bt_of (i := 10) lb_45 rfl rfl (by decide))
theorem dL_law_2891 : decode cL_law 2891 = .ok (.i2l, 1) := db_133 (bt_of (i := 11) lb_45 rfl rfl (by decide))
theorem dL_law_2892 : decode cL_law 2892 = .ok (.bipush 32, 2) := db_16 (bt_of (i := 12) lb_45 rfl rfl (by decide)) (bt_of (i := 13) lb_45 rfl rfl (by decide))
theorem dL_law_2894 : decode cL_law 2894 = .ok (.lshl, 1) := db_121 (bt_of (i := 14) lb_45 rfl rfl (by decide))
theorem dL_law_2895 : decode cL_law 2895 = .ok (.aload_n 0, 1) := db_42 (bt_of (i := 15) lb_45 rfl rfl (by decide))
theorem dL_law_2896 : decode cL_law 2896 = .ok (.iload 4, 2) := db_21 (bt_of (i := 16) lb_45 rfl rfl (by decide)) (bt_of (i := 17) lb_45 rfl rfl (by decide))
theorem dL_law_2898 : decode cL_law 2898 = .ok (.iconst 2, 1) := db_5 (bt_of (i := 18) lb_45 rfl rfl (by decide))
theorem dL_law_2899 : decode cL_law 2899 = .ok (.iadd, 1) := db_96 (bt_of (i := 19) lb_45 rfl rfl (by decide))
theorem dL_law_2900 : decode cL_law 2900 = .ok (.iaload, 1) := db_46 (bt_of (i := 20) lb_45 rfl rfl (by decide))
theorem dL_law_2901 : decode cL_law 2901 = .ok (.i2l, 1) := db_133 (bt_of (i := 21) lb_45 rfl rfl (by decide))
theorem dL_law_2902 : decode cL_law 2902 = .ok (.ldc2_w 171, 3) := db_20 (bt_of (i := 22) lb_45 rfl rfl (by decide)) (bt_of (i := 23) lb_45 rfl rfl (by decide)) (bt_of (i := 24) lb_45 rfl rfl (by decide))
theorem dL_law_2905 : decode cL_law 2905 = .ok (.land, 1) := db_127 (bt_of (i := 25) lb_45 rfl rfl (by decide))
theorem dL_law_2906 : decode cL_law 2906 = .ok (.lor, 1) := db_129 (bt_of (i := 26) lb_45 rfl rfl (by decide))
theorem dL_law_2907 : decode cL_law 2907 = .ok (.aload_n 0, 1) := db_42 (bt_of (i := 27) lb_45 rfl rfl (by decide))
theorem dL_law_2908 : decode cL_law 2908 = .ok (.iload 4, 2) := db_21 (bt_of (i := 28) lb_45 rfl rfl (by decide)) (bt_of (i := 29) lb_45 rfl rfl (by decide))
theorem dL_law_2910 : decode cL_law 2910 = .ok (.iconst 3, 1) := db_6 (bt_of (i := 30) lb_45 rfl rfl (by decide))
theorem dL_law_2911 : decode cL_law 2911 = .ok (.iadd, 1) := db_96 (bt_of (i := 31) lb_45 rfl rfl (by decide))
theorem dL_law_2912 : decode cL_law 2912 = .ok (.iaload, 1) := db_46 (bt_of (i := 32) lb_45 rfl rfl (by decide))
theorem dL_law_2913 : decode cL_law 2913 = .ok (.aload_n 0, 1) := db_42 (bt_of (i := 33) lb_45 rfl rfl (by decide))
theorem dL_law_2914 : decode cL_law 2914 = .ok (.iload 4, 2) := db_21 (bt_of (i := 34) lb_45 rfl rfl (by decide)) (bt_of (i := 35) lb_45 rfl rfl (by decide))
theorem dL_law_2916 : decode cL_law 2916 = .ok (.iconst 4, 1) := db_7 (bt_of (i := 36) lb_45 rfl rfl (by decide))
theorem dL_law_2917 : decode cL_law 2917 = .ok (.iadd, 1) := db_96 (bt_of (i := 37) lb_45 rfl rfl (by decide))
theorem dL_law_2918 : decode cL_law 2918 = .ok (.iaload, 1) := db_46 (bt_of (i := 38) lb_45 rfl rfl (by decide))
theorem dL_law_2919 : decode cL_law 2919 = .ok (.i2l, 1) := db_133 (bt_of (i := 39) lb_45 rfl rfl (by decide))
theorem dL_law_2920 : decode cL_law 2920 = .ok (.bipush 32, 2) := db_16 (bt_of (i := 40) lb_45 rfl rfl (by decide)) (bt_of (i := 41) lb_45 rfl rfl (by decide))
theorem dL_law_2922 : decode cL_law 2922 = .ok (.lshl, 1) := db_121 (bt_of (i := 42) lb_45 rfl rfl (by decide))
theorem dL_law_2923 : decode cL_law 2923 = .ok (.aload_n 0, 1) := db_42 (bt_of (i := 43) lb_45 rfl rfl (by decide))
theorem dL_law_2924 : decode cL_law 2924 = .ok (.iload 4, 2) := db_21 (bt_of (i := 44) lb_45 rfl rfl (by decide)) (bt_of (i := 45) lb_45 rfl rfl (by decide))
theorem dL_law_2926 : decode cL_law 2926 = .ok (.iconst 5, 1) := db_8 (bt_of (i := 46) lb_45 rfl rfl (by decide))
theorem dL_law_2927 : decode cL_law 2927 = .ok (.iadd, 1) := db_96 (bt_of (i := 47) lb_45 rfl rfl (by decide))
theorem dL_law_2928 : decode cL_law 2928 = .ok (.iaload, 1) := db_46 (bt_of (i := 48) lb_45 rfl rfl (by decide))
theorem dL_law_2929 : decode cL_law 2929 = .ok (.i2l, 1) := db_133 (bt_of (i := 49) lb_45 rfl rfl (by decide))
theorem dL_law_2930 : decode cL_law 2930 = .ok (.ldc2_w 171, 3) := db_20 (bt_of (i := 50) lb_45 rfl rfl (by decide)) (bt_of (i := 51) lb_45 rfl rfl (by decide)) (bt_of (i := 52) lb_45 rfl rfl (by decide))
theorem dL_law_2933 : decode cL_law 2933 = .ok (.land, 1) := db_127 (bt_of (i := 53) lb_45 rfl rfl (by decide))
theorem dL_law_2934 : decode cL_law 2934 = .ok (.lor, 1) := db_129 (bt_of (i := 54) lb_45 rfl rfl (by decide))
theorem dL_law_2935 : decode cL_law 2935 = .ok (.invokevirtual 298, 3) := db_182 (bt_of (i := 55) lb_45 rfl rfl (by decide)) (bt_of (i := 56) lb_45 rfl rfl (by decide)) (bt_of (i := 57) lb_45 rfl rfl (by decide))
theorem dL_law_2938 : decode cL_law 2938 = .ok (.istore 6, 2) := db_54 (bt_of (i := 58) lb_45 rfl rfl (by decide)) (bt_of (i := 59) lb_45 rfl rfl (by decide))
theorem dL_law_2940 : decode cL_law 2940 = .ok (.aload_n 2, 1) := db_44 (bt_of (i := 60) lb_45 rfl rfl (by decide))
theorem dL_law_2941 : decode cL_law 2941 = .ok (.invokevirtual 179, 3) := db_182 (bt_of (i := 61) lb_45 rfl rfl (by decide)) (bt_of (i := 62) lb_45 rfl rfl (by decide)) (bt_of (i := 63) lb_45 rfl rfl (by decide))
theorem dL_law_2944 : decode cL_law 2944 = .ok (.iload 5, 2) := db_21 (bt_of (i := 0) lb_46 rfl rfl (by decide)) (bt_of (i := 1) lb_46 rfl rfl (by decide))
theorem dL_law_2946 : decode cL_law 2946 = .ok (.if_icmp .eq 5, 3) := db_159 (bt_of (i := 2) lb_46 rfl rfl (by decide)) (bt_of (i := 3) lb_46 rfl rfl (by decide)) (bt_of (i := 4) lb_46 rfl rfl (by decide)) (by decide +kernel)
theorem dL_law_2949 : decode cL_law 2949 = .ok (.iconst 0, 1) := db_3 (bt_of (i := 5) lb_46 rfl rfl (by decide))
theorem dL_law_2950 : decode cL_law 2950 = .ok (.ireturn, 1) := db_172 (bt_of (i := 6) lb_46 rfl rfl (by decide))
theorem dL_law_2951 : decode cL_law 2951 = .ok (.iload 5, 2) := db_21 (bt_of (i := 7) lb_46 rfl rfl (by decide)) (bt_of (i := 8) lb_46 rfl rfl (by decide))
theorem dL_law_2953 : decode cL_law 2953 = .ok (.ifCond .ne 15, 3) := db_154 (bt_of (i := 9) lb_46 rfl rfl (by decide)) (bt_of (i := 10) lb_46 rfl rfl (by decide)) (bt_of (i := 11) lb_46 rfl rfl (by decide)) (by decide +kernel)
theorem dL_law_2956 : decode cL_law 2956 = .ok (.aload_n 3, 1) := db_45 (bt_of (i := 12) lb_46 rfl rfl (by decide))
theorem dL_law_2957 : decode cL_law 2957 = .ok (.iconst 0, 1) := db_3 (bt_of (i := 13) lb_46 rfl rfl (by decide))
theorem dL_law_2958 : decode cL_law 2958 = .ok (.laload, 1) := db_47 (bt_of (i := 14) lb_46 rfl rfl (by decide))
theorem dL_law_2959 : decode cL_law 2959 = .ok (.iload 6, 2) := db_21 (bt_of (i := 15) lb_46 rfl rfl (by decide)) (bt_of (i := 16) lb_46 rfl rfl (by decide))
theorem dL_law_2961 : decode cL_law 2961 = .ok (.i2l, 1) := db_133 (bt_of (i := 17) lb_46 rfl rfl (by decide))
theorem dL_law_2962 : decode cL_law 2962 = .ok (.lcmp, 1) := db_148 (bt_of (i := 18) lb_46 rfl rfl (by decide))
theorem dL_law_2963 : decode cL_law 2963 = .ok (.ifCond .eq 5, 3) := db_153 (bt_of (i := 19) lb_46 rfl rfl (by decide)) (bt_of (i := 20) lb_46 rfl rfl (by decide)) (bt_of (i := 21) lb_46 rfl rfl (by decide)) (by decide +kernel)
theorem dL_law_2966 : decode cL_law 2966 = .ok (.iconst 0, 1) := db_3 (bt_of (i := 22) lb_46 rfl rfl (by decide))
theorem dL_law_2967 : decode cL_law 2967 = .ok (.ireturn, 1) := db_172 (bt_of (i := 23) lb_46 rfl rfl (by decide))
theorem dL_law_2968 : decode cL_law 2968 = .ok (.goto 579, 3) := db_167 (bt_of (i := 24) lb_46 rfl rfl (by decide)) (bt_of (i := 25) lb_46 rfl rfl (by decide)) (bt_of (i := 26) lb_46 rfl rfl (by decide)) (by decide +kernel)
theorem dL_law_2971 : decode cL_law 2971 = .ok (.aload_n 1, 1) := db_43 (bt_of (i := 27) lb_46 rfl rfl (by decide))
theorem dL_law_2972 : decode cL_law 2972 = .ok (.aload_n 0, 1) := db_42 (bt_of (i := 28) lb_46 rfl rfl (by decide))
theorem dL_law_2973 : decode cL_law 2973 = .ok (.iload 4, 2) := db_21 (bt_of (i := 29) lb_46 rfl rfl (by decide)) (bt_of (i := 30) lb_46 rfl rfl (by decide))
theorem dL_law_2975 : decode cL_law 2975 = .ok (.iconst 1, 1) := db_4 (bt_of (i := 31) lb_46 rfl rfl (by decide))
theorem dL_law_2976 : decode cL_law 2976 = .ok (.iadd, 1) := db_96 (bt_of (i := 32) lb_46 rfl rfl (by decide))
theorem dL_law_2977 : decode cL_law 2977 = .ok (.iaload, 1) := db_46 (bt_of (i := 33) lb_46 rfl rfl (by decide))
theorem dL_law_2978 : decode cL_law 2978 = .ok (.aload_n 0, 1) := db_42 (bt_of (i := 34) lb_46 rfl rfl (by decide))
theorem dL_law_2979 : decode cL_law 2979 = .ok (.iload 4, 2) := db_21 (bt_of (i := 35) lb_46 rfl rfl (by decide)) (bt_of (i := 36) lb_46 rfl rfl (by decide))
theorem dL_law_2981 : decode cL_law 2981 = .ok (.iconst 2, 1) := db_5 (bt_of (i := 37) lb_46 rfl rfl (by decide))
theorem dL_law_2982 : decode cL_law 2982 = .ok (.iadd, 1) := db_96 (bt_of (i := 38) lb_46 rfl rfl (by decide))
theorem dL_law_2983 : decode cL_law 2983 = .ok (.iaload, 1) := db_46 (bt_of (i := 39) lb_46 rfl rfl (by decide))
theorem dL_law_2984 : decode cL_law 2984 = .ok (.i2c, 1) := db_146 (bt_of (i := 40) lb_46 rfl rfl (by decide))
theorem dL_law_2985 : decode cL_law 2985 = .ok (.aload_n 3, 1) := db_45 (bt_of (i := 41) lb_46 rfl rfl (by decide))
theorem dL_law_2986 : decode cL_law 2986 = .ok (.invokestatic 299, 3) := db_184 (bt_of (i := 42) lb_46 rfl rfl (by decide)) (bt_of (i := 43) lb_46 rfl rfl (by decide)) (bt_of (i := 44) lb_46 rfl rfl (by decide))
theorem dL_law_2989 : decode cL_law 2989 = .ok (.istore 5, 2) := db_54 (bt_of (i := 45) lb_46 rfl rfl (by decide)) (bt_of (i := 46) lb_46 rfl rfl (by decide))
theorem dL_law_2991 : decode cL_law 2991 = .ok (.aload_n 2, 1) := db_44 (bt_of (i := 47) lb_46 rfl rfl (by decide))
theorem dL_law_2992 : decode cL_law 2992 = .ok (.aload_n 0, 1) := db_42 (bt_of (i := 48) lb_46 rfl rfl (by decide))
theorem dL_law_2993 : decode cL_law 2993 = .ok (.iload 4, 2) := db_21 (bt_of (i := 49) lb_46 rfl rfl (by decide)) (bt_of (i := 50) lb_46 rfl rfl (by decide))
theorem dL_law_2995 : decode cL_law 2995 = .ok (.iconst 1, 1) := db_4 (bt_of (i := 51) lb_46 rfl rfl (by decide))
theorem dL_law_2996 : decode cL_law 2996 = .ok (.iadd, 1) := db_96 (bt_of (i := 52) lb_46 rfl rfl (by decide))
theorem dL_law_2997 : decode cL_law 2997 = .ok (.iaload, 1) := db_46 (bt_of (i := 53) lb_46 rfl rfl (by decide))
theorem dL_law_2998 : decode cL_law 2998 = .ok (.aload_n 0, 1) := db_42 (bt_of (i := 54) lb_46 rfl rfl (by decide))
theorem dL_law_2999 : decode cL_law 2999 = .ok (.iload 4, 2) := db_21 (bt_of (i := 55) lb_46 rfl rfl (by decide)) (bt_of (i := 56) lb_46 rfl rfl (by decide))
theorem dL_law_3001 : decode cL_law 3001 = .ok (.iconst 2, 1) := db_5 (bt_of (i := 57) lb_46 rfl rfl (by decide))
theorem dL_law_3002 : decode cL_law 3002 = .ok (.iadd, 1) := db_96 (bt_of (i := 58) lb_46 rfl rfl (by decide))
theorem dL_law_3003 : decode cL_law 3003 = .ok (.iaload, 1) := db_46 (bt_of (i := 59) lb_46 rfl rfl (by decide))
theorem dL_law_3004 : decode cL_law 3004 = .ok (.i2c, 1) := db_146 (bt_of (i := 60) lb_46 rfl rfl (by decide))
theorem dL_law_3005 : decode cL_law 3005 = .ok (.invokevirtual 302, 3) := db_182 (bt_of (i := 61) lb_46 rfl rfl (by decide)) (bt_of (i := 62) lb_46 rfl rfl (by decide)) (bt_of (i := 63) lb_46 rfl rfl (by decide))
theorem dL_law_3008 : decode cL_law 3008 = .ok (.lstore 6, 2) := db_55 (bt_of (i := 0) lb_47 rfl rfl (by decide)) (bt_of (i := 1) lb_47 rfl rfl (by decide))
theorem dL_law_3010 : decode cL_law 3010 = .ok (.aload_n 2, 1) := db_44 (bt_of (i := 2) lb_47 rfl rfl (by decide))
theorem dL_law_3011 : decode cL_law 3011 = .ok (.invokevirtual 179, 3) := db_182 (bt_of (i := 3) lb_47 rfl rfl (by decide)) (bt_of (i := 4) lb_47 rfl rfl (by decide)) (bt_of (i := 5) lb_47 rfl rfl (by decide))
theorem dL_law_3014 : decode cL_law 3014 = .ok (.iload 5, 2) := db_21 (bt_of (i := 6) lb_47 rfl rfl (by decide)) (bt_of (i := 7) lb_47 rfl rfl (by decide))
theorem dL_law_3016 : decode cL_law 3016 = .ok (.if_icmp .eq 5, 3) := db_159 (bt_of (i := 8) lb_47 rfl rfl (by decide)) (bt_of (i := 9) lb_47 rfl rfl (by decide)) (bt_of (i := 10) lb_47 rfl rfl (by decide)) (by decide +kernel)
theorem dL_law_3019 : decode cL_law 3019 = .ok (.iconst 0, 1) := db_3 (bt_of (i := 11) lb_47 rfl rfl (by decide))
theorem dL_law_3020 : decode cL_law 3020 = .ok (.ireturn, 1) := db_172 (bt_of (i := 12) lb_47 rfl rfl (by decide))
theorem dL_law_3021 : decode cL_law 3021 = .ok (.iload 5, 2) := db_21 (bt_of (i := 13) lb_47 rfl rfl (by decide)) (bt_of (i := 14) lb_47 rfl rfl (by decide))
theorem dL_law_3023 : decode cL_law 3023 = .ok (.ifCond .ne 14, 3) := db_154 (bt_of (i := 15) lb_47 rfl rfl (by decide)) (bt_of (i := 16) lb_47 rfl rfl (by decide)) (bt_of (i := 17) lb_47 rfl rfl (by decide)) (by decide +kernel)
theorem dL_law_3026 : decode cL_law 3026 = .ok (.aload_n 3, 1) := db_45 (bt_of (i := 18) lb_47 rfl rfl (by decide))
theorem dL_law_3027 : decode cL_law 3027 = .ok (.iconst 0, 1) := db_3 (bt_of (i := 19) lb_47 rfl rfl (by decide))
theorem dL_law_3028 : decode cL_law 3028 = .ok (.laload, 1) := db_47 (bt_of (i := 20) lb_47 rfl rfl (by decide))
theorem dL_law_3029 : decode cL_law 3029 = .ok (.lload 6, 2) := db_22 (bt_of (i := 21) lb_47 rfl rfl (by decide)) (bt_of (i := 22) lb_47 rfl rfl (by decide))
theorem dL_law_3031 : decode cL_law 3031 = .ok (.lcmp, 1) := db_148 (bt_of (i := 23) lb_47 rfl rfl (by decide))
theorem dL_law_3032 : decode cL_law 3032 = .ok (.ifCond .eq 5, 3) := db_153 (bt_of (i := 24) lb_47 rfl rfl (by decide)) (bt_of (i := 25) lb_47 rfl rfl (by decide)) (bt_of (i := 26) lb_47 rfl rfl (by decide)) (by decide +kernel)
theorem dL_law_3035 : decode cL_law 3035 = .ok (.iconst 0, 1) := db_3 (bt_of (i := 27) lb_47 rfl rfl (by decide))
theorem dL_law_3036 : decode cL_law 3036 = .ok (.ireturn, 1) := db_172 (bt_of (i := 28) lb_47 rfl rfl (by decide))
theorem dL_law_3037 : decode cL_law 3037 = .ok (.goto 510, 3) := db_167 (bt_of (i := 29) lb_47 rfl rfl (by decide)) (bt_of (i := 30) lb_47 rfl rfl (by decide)) (bt_of (i := 31) lb_47 rfl rfl (by decide)) (by decide +kernel)
theorem dL_law_3040 : decode cL_law 3040 = .ok (.aload_n 1, 1) := db_43 (bt_of (i := 32) lb_47 rfl rfl (by decide))
theorem dL_law_3041 : decode cL_law 3041 = .ok (.aload_n 0, 1) := db_42 (bt_of (i := 33) lb_47 rfl rfl (by decide))
theorem dL_law_3042 : decode cL_law 3042 = .ok (.iload 4, 2) := db_21 (bt_of (i := 34) lb_47 rfl rfl (by decide)) (bt_of (i := 35) lb_47 rfl rfl (by decide))
theorem dL_law_3044 : decode cL_law 3044 = .ok (.iconst 1, 1) := db_4 (bt_of (i := 36) lb_47 rfl rfl (by decide))
theorem dL_law_3045 : decode cL_law 3045 = .ok (.iadd, 1) := db_96 (bt_of (i := 37) lb_47 rfl rfl (by decide))
theorem dL_law_3046 : decode cL_law 3046 = .ok (.iaload, 1) := db_46 (bt_of (i := 38) lb_47 rfl rfl (by decide))
theorem dL_law_3047 : decode cL_law 3047 = .ok (.aload_n 0, 1) := db_42 (bt_of (i := 39) lb_47 rfl rfl (by decide))
theorem dL_law_3048 : decode cL_law 3048 = .ok (.iload 4, 2) := db_21 (bt_of (i := 40) lb_47 rfl rfl (by decide)) (bt_of (i := 41) lb_47 rfl rfl (by decide))
theorem dL_law_3050 : decode cL_law 3050 = .ok (.iconst 2, 1) := db_5 (bt_of (i := 42) lb_47 rfl rfl (by decide))
theorem dL_law_3051 : decode cL_law 3051 = .ok (.iadd, 1) := db_96 (bt_of (i := 43) lb_47 rfl rfl (by decide))
theorem dL_law_3052 : decode cL_law 3052 = .ok (.iaload, 1) := db_46 (bt_of (i := 44) lb_47 rfl rfl (by decide))
theorem dL_law_3053 : decode cL_law 3053 = .ok (.aload_n 0, 1) := db_42 (bt_of (i := 45) lb_47 rfl rfl (by decide))
theorem dL_law_3054 : decode cL_law 3054 = .ok (.iload 4, 2) := db_21 (bt_of (i := 46) lb_47 rfl rfl (by decide)) (bt_of (i := 47) lb_47 rfl rfl (by decide))
theorem dL_law_3056 : decode cL_law 3056 = .ok (.iconst 3, 1) := db_6 (bt_of (i := 48) lb_47 rfl rfl (by decide))
theorem dL_law_3057 : decode cL_law 3057 = .ok (.iadd, 1) := db_96 (bt_of (i := 49) lb_47 rfl rfl (by decide))
theorem dL_law_3058 : decode cL_law 3058 = .ok (.iaload, 1) := db_46 (bt_of (i := 50) lb_47 rfl rfl (by decide))
theorem dL_law_3059 : decode cL_law 3059 = .ok (.aload_n 0, 1) := db_42 (bt_of (i := 51) lb_47 rfl rfl (by decide))
theorem dL_law_3060 : decode cL_law 3060 = .ok (.iload 4, 2) := db_21 (bt_of (i := 52) lb_47 rfl rfl (by decide)) (bt_of (i := 53) lb_47 rfl rfl (by decide))
theorem dL_law_3062 : decode cL_law 3062 = .ok (.iconst 4, 1) := db_7 (bt_of (i := 54) lb_47 rfl rfl (by decide))
theorem dL_law_3063 : decode cL_law 3063 = .ok (.iadd, 1) := db_96 (bt_of (i := 55) lb_47 rfl rfl (by decide))
theorem dL_law_3064 : decode cL_law 3064 = .ok (.iaload, 1) := db_46 (bt_of (i := 56) lb_47 rfl rfl (by decide))
theorem dL_law_3065 : decode cL_law 3065 = .ok (.i2l, 1) := db_133 (bt_of (i := 57) lb_47 rfl rfl (by decide))
theorem dL_law_3066 : decode cL_law 3066 = .ok (.bipush 32, 2) := db_16 (bt_of (i := 58) lb_47 rfl rfl (by decide)) (bt_of (i := 59) lb_47 rfl rfl (by decide))
theorem dL_law_3068 : decode cL_law 3068 = .ok (.lshl, 1) := db_121 (bt_of (i := 60) lb_47 rfl rfl (by decide))
theorem dL_law_3069 : decode cL_law 3069 = .ok (.aload_n 0, 1) := db_42 (bt_of (i := 61) lb_47 rfl rfl (by decide))
theorem dL_law_3070 : decode cL_law 3070 = .ok (.iload 4, 2) := db_21 (bt_of (i := 62) lb_47 rfl rfl (by decide)) (bt_of (i := 63) lb_47 rfl rfl (by decide))
theorem dL_law_3072 : decode cL_law 3072 = .ok (.iconst 5, 1) := db_8 (bt_of (i := 0) lb_48 rfl rfl (by decide))
theorem dL_law_3073 : decode cL_law 3073 = .ok (.iadd, 1) := db_96 (bt_of (i := 1) lb_48 rfl rfl (by decide))
theorem dL_law_3074 : decode cL_law 3074 = .ok (.iaload, 1) := db_46 (bt_of (i := 2) lb_48 rfl rfl (by decide))
theorem dL_law_3075 : decode cL_law 3075 = .ok (.i2l, 1) := db_133 (bt_of (i := 3) lb_48 rfl rfl (by decide))
theorem dL_law_3076 : decode cL_law 3076 = .ok (.ldc2_w 171, 3) := db_20 (bt_of (i := 4) lb_48 rfl rfl (by decide)) (bt_of (i := 5) lb_48 rfl rfl (by decide)) (bt_of (i := 6) lb_48 rfl rfl (by decide))
theorem dL_law_3079 : decode cL_law 3079 = .ok (.land, 1) := db_127 (bt_of (i := 7) lb_48 rfl rfl (by decide))
theorem dL_law_3080 : decode cL_law 3080 = .ok (.lor, 1) := db_129 (bt_of (i := 8) lb_48 rfl rfl (by decide))
theorem dL_law_3081 : decode cL_law 3081 = .ok (.aload_n 3, 1) := db_45 (bt_of (i := 9) lb_48 rfl rfl (by decide))
theorem dL_law_3082 : decode cL_law 3082 = .ok (.invokestatic 303, 3) := db_184 (bt_of (i := 10) lb_48 rfl rfl (by decide)) (bt_of (i := 11) lb_48 rfl rfl (by decide)) (bt_of (i := 12) lb_48 rfl rfl (by decide))
theorem dL_law_3085 : decode cL_law 3085 = .ok (.istore 5, 2) := db_54 (bt_of (i := 13) lb_48 rfl rfl (by decide)) (bt_of (i := 14) lb_48 rfl rfl (by decide))
theorem dL_law_3087 : decode cL_law 3087 = .ok (.aload_n 2, 1) := db_44 (bt_of (i := 15) lb_48 rfl rfl (by decide))
theorem dL_law_3088 : decode cL_law 3088 = .ok (.aload_n 0, 1) := db_42 (bt_of (i := 16) lb_48 rfl rfl (by decide))
theorem dL_law_3089 : decode cL_law 3089 = .ok (.iload 4, 2) := db_21 (bt_of (i := 17) lb_48 rfl rfl (by decide)) (bt_of (i := 18) lb_48 rfl rfl (by decide))
theorem dL_law_3091 : decode cL_law 3091 = .ok (.iconst 1, 1) := db_4 (bt_of (i := 19) lb_48 rfl rfl (by decide))
theorem dL_law_3092 : decode cL_law 3092 = .ok (.iadd, 1) := db_96 (bt_of (i := 20) lb_48 rfl rfl (by decide))
theorem dL_law_3093 : decode cL_law 3093 = .ok (.iaload, 1) := db_46 (bt_of (i := 21) lb_48 rfl rfl (by decide))
theorem dL_law_3094 : decode cL_law 3094 = .ok (.aload_n 0, 1) := db_42 (bt_of (i := 22) lb_48 rfl rfl (by decide))
theorem dL_law_3095 : decode cL_law 3095 = .ok (.iload 4, 2) := db_21 (bt_of (i := 23) lb_48 rfl rfl (by decide)) (bt_of (i := 24) lb_48 rfl rfl (by decide))
theorem dL_law_3097 : decode cL_law 3097 = .ok (.iconst 2, 1) := db_5 (bt_of (i := 25) lb_48 rfl rfl (by decide))
theorem dL_law_3098 : decode cL_law 3098 = .ok (.iadd, 1) := db_96 (bt_of (i := 26) lb_48 rfl rfl (by decide))
theorem dL_law_3099 : decode cL_law 3099 = .ok (.iaload, 1) := db_46 (bt_of (i := 27) lb_48 rfl rfl (by decide))
theorem dL_law_3100 : decode cL_law 3100 = .ok (.aload_n 0, 1) := db_42 (bt_of (i := 28) lb_48 rfl rfl (by decide))
theorem dL_law_3101 : decode cL_law 3101 = .ok (.iload 4, 2) := db_21 (bt_of (i := 29) lb_48 rfl rfl (by decide)) (bt_of (i := 30) lb_48 rfl rfl (by decide))
theorem dL_law_3103 : decode cL_law 3103 = .ok (.iconst 3, 1) := db_6 (bt_of (i := 31) lb_48 rfl rfl (by decide))
theorem dL_law_3104 : decode cL_law 3104 = .ok (.iadd, 1) := db_96 (bt_of (i := 32) lb_48 rfl rfl (by decide))
theorem dL_law_3105 : decode cL_law 3105 = .ok (.iaload, 1) := db_46 (bt_of (i := 33) lb_48 rfl rfl (by decide))
theorem dL_law_3106 : decode cL_law 3106 = .ok (.aload_n 0, 1) := db_42 (bt_of (i := 34) lb_48 rfl rfl (by decide))
theorem dL_law_3107 : decode cL_law 3107 = .ok (.iload 4, 2) := db_21 (bt_of (i := 35) lb_48 rfl rfl (by decide)) (bt_of (i := 36) lb_48 rfl rfl (by decide))
theorem dL_law_3109 : decode cL_law 3109 = .ok (.iconst 4, 1) := db_7 (bt_of (i := 37) lb_48 rfl rfl (by decide))
theorem dL_law_3110 : decode cL_law 3110 = .ok (.iadd, 1) := db_96 (bt_of (i := 38) lb_48 rfl rfl (by decide))
theorem dL_law_3111 : decode cL_law 3111 = .ok (.iaload, 1) := db_46 (bt_of (i := 39) lb_48 rfl rfl (by decide))
theorem dL_law_3112 : decode cL_law 3112 = .ok (.i2l, 1) := db_133 (bt_of (i := 40) lb_48 rfl rfl (by decide))
theorem dL_law_3113 : decode cL_law 3113 = .ok (.bipush 32, 2) := db_16 (bt_of (i := 41) lb_48 rfl rfl (by decide)) (bt_of (i := 42) lb_48 rfl rfl (by decide))
theorem dL_law_3115 : decode cL_law 3115 = .ok (.lshl, 1) := db_121 (bt_of (i := 43) lb_48 rfl rfl (by decide))
theorem dL_law_3116 : decode cL_law 3116 = .ok (.aload_n 0, 1) := db_42 (bt_of (i := 44) lb_48 rfl rfl (by decide))
theorem dL_law_3117 : decode cL_law 3117 = .ok (.iload 4, 2) := db_21 (bt_of (i := 45) lb_48 rfl rfl (by decide)) (bt_of (i := 46) lb_48 rfl rfl (by decide))
theorem dL_law_3119 : decode cL_law 3119 = .ok (.iconst 5, 1) := db_8 (bt_of (i := 47) lb_48 rfl rfl (by decide))
theorem dL_law_3120 : decode cL_law 3120 = .ok (.iadd, 1) := db_96 (bt_of (i := 48) lb_48 rfl rfl (by decide))
theorem dL_law_3121 : decode cL_law 3121 = .ok (.iaload, 1) := db_46 (bt_of (i := 49) lb_48 rfl rfl (by decide))
theorem dL_law_3122 : decode cL_law 3122 = .ok (.i2l, 1) := db_133 (bt_of (i := 50) lb_48 rfl rfl (by decide))
theorem dL_law_3123 : decode cL_law 3123 = .ok (.ldc2_w 171, 3) := db_20 (bt_of (i := 51) lb_48 rfl rfl (by decide)) (bt_of (i := 52) lb_48 rfl rfl (by decide)) (bt_of (i := 53) lb_48 rfl rfl (by decide))
theorem dL_law_3126 : decode cL_law 3126 = .ok (.land, 1) := db_127 (bt_of (i := 54) lb_48 rfl rfl (by decide))
theorem dL_law_3127 : decode cL_law 3127 = .ok (.lor, 1) := db_129 (bt_of (i := 55) lb_48 rfl rfl (by decide))
theorem dL_law_3128 : decode cL_law 3128 = .ok (.invokevirtual 306, 3) := db_182 (bt_of (i := 56) lb_48 rfl rfl (by decide)) (bt_of (i := 57) lb_48 rfl rfl (by decide)) (bt_of (i := 58) lb_48 rfl rfl (by decide))
theorem dL_law_3131 : decode cL_law 3131 = .ok (.istore 6, 2) := db_54 (bt_of (i := 59) lb_48 rfl rfl (by decide)) (bt_of (i := 60) lb_48 rfl rfl (by decide))
theorem dL_law_3133 : decode cL_law 3133 = .ok (.aload_n 2, 1) := db_44 (bt_of (i := 61) lb_48 rfl rfl (by decide))
theorem dL_law_3134 : decode cL_law 3134 = .ok (.invokevirtual 179, 3) := db_182 (bt_of (i := 62) lb_48 rfl rfl (by decide)) (bt_of (i := 63) lb_48 rfl rfl (by decide)) (bt_of (i := 0) lb_49 rfl rfl (by decide))
theorem dL_law_3137 : decode cL_law 3137 = .ok (.iload 5, 2) := db_21 (bt_of (i := 1) lb_49 rfl rfl (by decide)) (bt_of (i := 2) lb_49 rfl rfl (by decide))
theorem dL_law_3139 : decode cL_law 3139 = .ok (.if_icmp .eq 5, 3) := db_159 (bt_of (i := 3) lb_49 rfl rfl (by decide)) (bt_of (i := 4) lb_49 rfl rfl (by decide)) (bt_of (i := 5) lb_49 rfl rfl (by decide)) (by decide +kernel)
theorem dL_law_3142 : decode cL_law 3142 = .ok (.iconst 0, 1) := db_3 (bt_of (i := 6) lb_49 rfl rfl (by decide))
theorem dL_law_3143 : decode cL_law 3143 = .ok (.ireturn, 1) := db_172 (bt_of (i := 7) lb_49 rfl rfl (by decide))
theorem dL_law_3144 : decode cL_law 3144 = .ok (.iload 5, 2) := db_21 (bt_of (i := 8) lb_49 rfl rfl (by decide)) (bt_of (i := 9) lb_49 rfl rfl (by decide))
theorem dL_law_3146 : decode cL_law 3146 = .ok (.ifCond .ne 15, 3) := db_154 (bt_of (i := 10) lb_49 rfl rfl (by decide)) (bt_of (i := 11) lb_49 rfl rfl (by decide)) (bt_of (i := 12) lb_49 rfl rfl (by decide)) (by decide +kernel)
theorem dL_law_3149 : decode cL_law 3149 = .ok (.aload_n 3, 1) := db_45 (bt_of (i := 13) lb_49 rfl rfl (by decide))
theorem dL_law_3150 : decode cL_law 3150 = .ok (.iconst 0, 1) := db_3 (bt_of (i := 14) lb_49 rfl rfl (by decide))
theorem dL_law_3151 : decode cL_law 3151 = .ok (.laload, 1) := db_47 (bt_of (i := 15) lb_49 rfl rfl (by decide))
theorem dL_law_3152 : decode cL_law 3152 = .ok (.iload 6, 2) := db_21 (bt_of (i := 16) lb_49 rfl rfl (by decide)) (bt_of (i := 17) lb_49 rfl rfl (by decide))
theorem dL_law_3154 : decode cL_law 3154 = .ok (.i2l, 1) := db_133 (bt_of (i := 18) lb_49 rfl rfl (by decide))
theorem dL_law_3155 : decode cL_law 3155 = .ok (.lcmp, 1) := db_148 (bt_of (i := 19) lb_49 rfl rfl (by decide))
theorem dL_law_3156 : decode cL_law 3156 = .ok (.ifCond .eq 5, 3) := db_153 (bt_of (i := 20) lb_49 rfl rfl (by decide)) (bt_of (i := 21) lb_49 rfl rfl (by decide)) (bt_of (i := 22) lb_49 rfl rfl (by decide)) (by decide +kernel)
theorem dL_law_3159 : decode cL_law 3159 = .ok (.iconst 0, 1) := db_3 (bt_of (i := 23) lb_49 rfl rfl (by decide))
theorem dL_law_3160 : decode cL_law 3160 = .ok (.ireturn, 1) := db_172 (bt_of (i := 24) lb_49 rfl rfl (by decide))
theorem dL_law_3161 : decode cL_law 3161 = .ok (.goto 386, 3) := db_167 (bt_of (i := 25) lb_49 rfl rfl (by decide)) (bt_of (i := 26) lb_49 rfl rfl (by decide)) (bt_of (i := 27) lb_49 rfl rfl (by decide)) (by decide +kernel)
theorem dL_law_3164 : decode cL_law 3164 = .ok (.aload_n 1, 1) := db_43 (bt_of (i := 28) lb_49 rfl rfl (by decide))
theorem dL_law_3165 : decode cL_law 3165 = .ok (.aload_n 0, 1) := db_42 (bt_of (i := 29) lb_49 rfl rfl (by decide))
theorem dL_law_3166 : decode cL_law 3166 = .ok (.iload 4, 2) := db_21 (bt_of (i := 30) lb_49 rfl rfl (by decide)) (bt_of (i := 31) lb_49 rfl rfl (by decide))
theorem dL_law_3168 : decode cL_law 3168 = .ok (.iconst 1, 1) := db_4 (bt_of (i := 32) lb_49 rfl rfl (by decide))
theorem dL_law_3169 : decode cL_law 3169 = .ok (.iadd, 1) := db_96 (bt_of (i := 33) lb_49 rfl rfl (by decide))
theorem dL_law_3170 : decode cL_law 3170 = .ok (.iaload, 1) := db_46 (bt_of (i := 34) lb_49 rfl rfl (by decide))
theorem dL_law_3171 : decode cL_law 3171 = .ok (.aload_n 3, 1) := db_45 (bt_of (i := 35) lb_49 rfl rfl (by decide))
theorem dL_law_3172 : decode cL_law 3172 = .ok (.invokestatic 307, 3) := db_184 (bt_of (i := 36) lb_49 rfl rfl (by decide)) (bt_of (i := 37) lb_49 rfl rfl (by decide)) (bt_of (i := 38) lb_49 rfl rfl (by decide))
theorem dL_law_3175 : decode cL_law 3175 = .ok (.istore 5, 2) := db_54 (bt_of (i := 39) lb_49 rfl rfl (by decide)) (bt_of (i := 40) lb_49 rfl rfl (by decide))
theorem dL_law_3177 : decode cL_law 3177 = .ok (.aload_n 2, 1) := db_44 (bt_of (i := 41) lb_49 rfl rfl (by decide))
theorem dL_law_3178 : decode cL_law 3178 = .ok (.aload_n 0, 1) := db_42 (bt_of (i := 42) lb_49 rfl rfl (by decide))
theorem dL_law_3179 : decode cL_law 3179 = .ok (.iload 4, 2) := db_21 (bt_of (i := 43) lb_49 rfl rfl (by decide)) (bt_of (i := 44) lb_49 rfl rfl (by decide))
theorem dL_law_3181 : decode cL_law 3181 = .ok (.iconst 1, 1) := db_4 (bt_of (i := 45) lb_49 rfl rfl (by decide))
theorem dL_law_3182 : decode cL_law 3182 = .ok (.iadd, 1) := db_96 (bt_of (i := 46) lb_49 rfl rfl (by decide))
theorem dL_law_3183 : decode cL_law 3183 = .ok (.iaload, 1) := db_46 (bt_of (i := 47) lb_49 rfl rfl (by decide))
theorem dL_law_3184 : decode cL_law 3184 = .ok (.invokevirtual 309, 3) := db_182 (bt_of (i := 48) lb_49 rfl rfl (by decide)) (bt_of (i := 49) lb_49 rfl rfl (by decide)) (bt_of (i := 50) lb_49 rfl rfl (by decide))
theorem dL_law_3187 : decode cL_law 3187 = .ok (.istore 6, 2) := db_54 (bt_of (i := 51) lb_49 rfl rfl (by decide)) (bt_of (i := 52) lb_49 rfl rfl (by decide))
theorem dL_law_3189 : decode cL_law 3189 = .ok (.aload_n 2, 1) := db_44 (bt_of (i := 53) lb_49 rfl rfl (by decide))
theorem dL_law_3190 : decode cL_law 3190 = .ok (.invokevirtual 179, 3) := db_182 (bt_of (i := 54) lb_49 rfl rfl (by decide)) (bt_of (i := 55) lb_49 rfl rfl (by decide)) (bt_of (i := 56) lb_49 rfl rfl (by decide))
theorem dL_law_3193 : decode cL_law 3193 = .ok (.iload 5, 2) := db_21 (bt_of (i := 57) lb_49 rfl rfl (by decide)) (bt_of (i := 58) lb_49 rfl rfl (by decide))
theorem dL_law_3195 : decode cL_law 3195 = .ok (.if_icmp .eq 5, 3) := db_159 (bt_of (i := 59) lb_49 rfl rfl (by decide)) (bt_of (i := 60) lb_49 rfl rfl (by decide)) (bt_of (i := 61) lb_49 rfl rfl (by decide)) (by decide +kernel)
theorem dL_law_3198 : decode cL_law 3198 = .ok (.iconst 0, 1) := db_3 (bt_of (i := 62) lb_49 rfl rfl (by decide))
theorem dL_law_3199 : decode cL_law 3199 = .ok (.ireturn, 1) := db_172 (bt_of (i := 63) lb_49 rfl rfl (by decide))
theorem dL_law_3200 : decode cL_law 3200 = .ok (.iload 5, 2) := db_21 (bt_of (i := 0) lb_50 rfl rfl (by decide)) (bt_of (i := 1) lb_50 rfl rfl (by decide))
theorem dL_law_3202 : decode cL_law 3202 = .ok (.ifCond .ne 15, 3) := db_154 (bt_of (i := 2) lb_50 rfl rfl (by decide)) (bt_of (i := 3) lb_50 rfl rfl (by decide)) (bt_of (i := 4) lb_50 rfl rfl (by decide)) (by decide +kernel)
theorem dL_law_3205 : decode cL_law 3205 = .ok (.aload_n 3, 1) := db_45 (bt_of (i := 5) lb_50 rfl rfl (by decide))
theorem dL_law_3206 : decode cL_law 3206 = .ok (.iconst 0, 1) := db_3 (bt_of (i := 6) lb_50 rfl rfl (by decide))
theorem dL_law_3207 : decode cL_law 3207 = .ok (.laload, 1) := db_47 (bt_of (i := 7) lb_50 rfl rfl (by decide))
theorem dL_law_3208 : decode cL_law 3208 = .ok (.iload 6, 2) := db_21 (bt_of (i := 8) lb_50 rfl rfl (by decide)) (bt_of (i := 9) lb_50 rfl rfl (by decide))
theorem dL_law_3210 : decode cL_law 3210 = .ok (.i2l, 1) := db_133 (bt_of (i := 10) lb_50 rfl rfl (by decide))
theorem dL_law_3211 : decode cL_law 3211 = .ok (.lcmp, 1) := db_148 (bt_of (i := 11) lb_50 rfl rfl (by decide))
theorem dL_law_3212 : decode cL_law 3212 = .ok (.ifCond .eq 5, 3) := db_153 (bt_of (i := 12) lb_50 rfl rfl (by decide)) (bt_of (i := 13) lb_50 rfl rfl (by decide)) (bt_of (i := 14) lb_50 rfl rfl (by decide)) (by decide +kernel)
theorem dL_law_3215 : decode cL_law 3215 = .ok (.iconst 0, 1) := db_3 (bt_of (i := 15) lb_50 rfl rfl (by decide))
theorem dL_law_3216 : decode cL_law 3216 = .ok (.ireturn, 1) := db_172 (bt_of (i := 16) lb_50 rfl rfl (by decide))
theorem dL_law_3217 : decode cL_law 3217 = .ok (.goto 330, 3) := db_167 (bt_of (i := 17) lb_50 rfl rfl (by decide)) (bt_of (i := 18) lb_50 rfl rfl (by decide)) (bt_of (i := 19) lb_50 rfl rfl (by decide)) (by decide +kernel)
theorem dL_law_3220 : decode cL_law 3220 = .ok (.aload_n 1, 1) := db_43 (bt_of (i := 20) lb_50 rfl rfl (by decide))
theorem dL_law_3221 : decode cL_law 3221 = .ok (.aload_n 0, 1) := db_42 (bt_of (i := 21) lb_50 rfl rfl (by decide))
theorem dL_law_3222 : decode cL_law 3222 = .ok (.iload 4, 2) := db_21 (bt_of (i := 22) lb_50 rfl rfl (by decide)) (bt_of (i := 23) lb_50 rfl rfl (by decide))
theorem dL_law_3224 : decode cL_law 3224 = .ok (.iconst 1, 1) := db_4 (bt_of (i := 24) lb_50 rfl rfl (by decide))
theorem dL_law_3225 : decode cL_law 3225 = .ok (.iadd, 1) := db_96 (bt_of (i := 25) lb_50 rfl rfl (by decide))
theorem dL_law_3226 : decode cL_law 3226 = .ok (.iaload, 1) := db_46 (bt_of (i := 26) lb_50 rfl rfl (by decide))
theorem dL_law_3227 : decode cL_law 3227 = .ok (.aload_n 3, 1) := db_45 (bt_of (i := 27) lb_50 rfl rfl (by decide))
theorem dL_law_3228 : decode cL_law 3228 = .ok (.invokestatic 310, 3) := db_184 (bt_of (i := 28) lb_50 rfl rfl (by decide)) (bt_of (i := 29) lb_50 rfl rfl (by decide)) (bt_of (i := 30) lb_50 rfl rfl (by decide))
theorem dL_law_3231 : decode cL_law 3231 = .ok (.istore 5, 2) := db_54 (bt_of (i := 31) lb_50 rfl rfl (by decide)) (bt_of (i := 32) lb_50 rfl rfl (by decide))
theorem dL_law_3233 : decode cL_law 3233 = .ok (.aload_n 2, 1) := db_44 (bt_of (i := 33) lb_50 rfl rfl (by decide))
theorem dL_law_3234 : decode cL_law 3234 = .ok (.aload_n 0, 1) := db_42 (bt_of (i := 34) lb_50 rfl rfl (by decide))
theorem dL_law_3235 : decode cL_law 3235 = .ok (.iload 4, 2) := db_21 (bt_of (i := 35) lb_50 rfl rfl (by decide)) (bt_of (i := 36) lb_50 rfl rfl (by decide))
theorem dL_law_3237 : decode cL_law 3237 = .ok (.iconst 1, 1) := db_4 (bt_of (i := 37) lb_50 rfl rfl (by decide))
theorem dL_law_3238 : decode cL_law 3238 = .ok (.iadd, 1) := db_96 (bt_of (i := 38) lb_50 rfl rfl (by decide))
theorem dL_law_3239 : decode cL_law 3239 = .ok (.iaload, 1) := db_46 (bt_of (i := 39) lb_50 rfl rfl (by decide))
theorem dL_law_3240 : decode cL_law 3240 = .ok (.invokevirtual 312, 3) := db_182 (bt_of (i := 40) lb_50 rfl rfl (by decide)) (bt_of (i := 41) lb_50 rfl rfl (by decide)) (bt_of (i := 42) lb_50 rfl rfl (by decide))
theorem dL_law_3243 : decode cL_law 3243 = .ok (.istore 6, 2) := db_54 (bt_of (i := 43) lb_50 rfl rfl (by decide)) (bt_of (i := 44) lb_50 rfl rfl (by decide))
theorem dL_law_3245 : decode cL_law 3245 = .ok (.aload_n 2, 1) := db_44 (bt_of (i := 45) lb_50 rfl rfl (by decide))
theorem dL_law_3246 : decode cL_law 3246 = .ok (.invokevirtual 179, 3) := db_182 (bt_of (i := 46) lb_50 rfl rfl (by decide)) (bt_of (i := 47) lb_50 rfl rfl (by decide)) (bt_of (i := 48) lb_50 rfl rfl (by decide))
theorem dL_law_3249 : decode cL_law 3249 = .ok (.iload 5, 2) := db_21 (bt_of (i := 49) lb_50 rfl rfl (by decide)) (bt_of (i := 50) lb_50 rfl rfl (by decide))
theorem dL_law_3251 : decode cL_law 3251 = .ok (.if_icmp .eq 5, 3) := db_159 (bt_of (i := 51) lb_50 rfl rfl (by decide)) (bt_of (i := 52) lb_50 rfl rfl (by decide)) (bt_of (i := 53) lb_50 rfl rfl (by decide)) (by decide +kernel)
theorem dL_law_3254 : decode cL_law 3254 = .ok (.iconst 0, 1) := db_3 (bt_of (i := 54) lb_50 rfl rfl (by decide))
theorem dL_law_3255 : decode cL_law 3255 = .ok (.ireturn, 1) := db_172 (bt_of (i := 55) lb_50 rfl rfl (by decide))
theorem dL_law_3256 : decode cL_law 3256 = .ok (.iload 5, 2) := db_21 (bt_of (i := 56) lb_50 rfl rfl (by decide)) (bt_of (i := 57) lb_50 rfl rfl (by decide))
theorem dL_law_3258 : decode cL_law 3258 = .ok (.ifCond .ne 22, 3) := db_154 (bt_of (i := 58) lb_50 rfl rfl (by decide)) (bt_of (i := 59) lb_50 rfl rfl (by decide)) (bt_of (i := 60) lb_50 rfl rfl (by decide)) (by decide +kernel)
theorem dL_law_3261 : decode cL_law 3261 = .ok (.aload_n 3, 1) := db_45 (bt_of (i := 61) lb_50 rfl rfl (by decide))
theorem dL_law_3262 : decode cL_law 3262 = .ok (.iconst 0, 1) := db_3 (bt_of (i := 62) lb_50 rfl rfl (by decide))
theorem dL_law_3263 : decode cL_law 3263 = .ok (.laload, 1) := db_47 (bt_of (i := 63) lb_50 rfl rfl (by decide))
theorem dL_law_3264 : decode cL_law 3264 = .ok (.iload 6, 2) := db_21 (bt_of (i := 0) lb_51 rfl rfl (by decide)) (bt_of (i := 1) lb_51 rfl rfl (by decide))
theorem dL_law_3266 : decode cL_law 3266 = .ok (.ifCond .eq 7, 3) := db_153 (bt_of (i := 2) lb_51 rfl rfl (by decide)) (bt_of (i := 3) lb_51 rfl rfl (by decide)) (bt_of (i := 4) lb_51 rfl rfl (by decide)) (by decide +kernel)
theorem dL_law_3269 : decode cL_law 3269 = .ok (.lconst 1, 1) := db_10 (bt_of (i := 5) lb_51 rfl rfl (by decide))
theorem dL_law_3270 : decode cL_law 3270 = .ok (.goto 4, 3) := db_167 (bt_of (i := 6) lb_51 rfl rfl (by decide)) (bt_of (i := 7) lb_51 rfl rfl (by decide)) (bt_of (i := 8) lb_51 rfl rfl (by decide)) (by decide +kernel)
theorem dL_law_3273 : decode cL_law 3273 = .ok (.lconst 0, 1) := db_9 (bt_of (i := 9) lb_51 rfl rfl (by decide))
theorem dL_law_3274 : decode cL_law 3274 = .ok (.lcmp, 1) := db_148 (bt_of (i := 10) lb_51 rfl rfl (by decide))
theorem dL_law_3275 : decode cL_law 3275 = .ok (.ifCond .eq 5, 3) := db_153 (bt_of (i := 11) lb_51 rfl rfl (by decide)) (bt_of (i := 12) lb_51 rfl rfl (by decide)) (bt_of (i := 13) lb_51 rfl rfl (by decide)) (by decide +kernel)
theorem dL_law_3278 : decode cL_law 3278 = .ok (.iconst 0, 1) := db_3 (bt_of (i := 14) lb_51 rfl rfl (by decide))
theorem dL_law_3279 : decode cL_law 3279 = .ok (.ireturn, 1) := db_172 (bt_of (i := 15) lb_51 rfl rfl (by decide))
theorem dL_law_3280 : decode cL_law 3280 = .ok (.goto 267, 3) := db_167 (bt_of (i := 16) lb_51 rfl rfl (by decide)) (bt_of (i := 17) lb_51 rfl rfl (by decide)) (bt_of (i := 18) lb_51 rfl rfl (by decide)) (by decide +kernel)
theorem dL_law_3283 : decode cL_law 3283 = .ok (.aload_n 1, 1) := db_43 (bt_of (i := 19) lb_51 rfl rfl (by decide))
theorem dL_law_3284 : decode cL_law 3284 = .ok (.aload_n 0, 1) := db_42 (bt_of (i := 20) lb_51 rfl rfl (by decide))
theorem dL_law_3285 : decode cL_law 3285 = .ok (.iload 4, 2) := db_21 (bt_of (i := 21) lb_51 rfl rfl (by decide)) (bt_of (i := 22) lb_51 rfl rfl (by decide))
theorem dL_law_3287 : decode cL_law 3287 = .ok (.iconst 1, 1) := db_4 (bt_of (i := 23) lb_51 rfl rfl (by decide))
theorem dL_law_3288 : decode cL_law 3288 = .ok (.iadd, 1) := db_96 (bt_of (i := 24) lb_51 rfl rfl (by decide))
theorem dL_law_3289 : decode cL_law 3289 = .ok (.iaload, 1) := db_46 (bt_of (i := 25) lb_51 rfl rfl (by decide))
theorem dL_law_3290 : decode cL_law 3290 = .ok (.aload_n 0, 1) := db_42 (bt_of (i := 26) lb_51 rfl rfl (by decide))
theorem dL_law_3291 : decode cL_law 3291 = .ok (.iload 4, 2) := db_21 (bt_of (i := 27) lb_51 rfl rfl (by decide)) (bt_of (i := 28) lb_51 rfl rfl (by decide))
theorem dL_law_3293 : decode cL_law 3293 = .ok (.iconst 2, 1) := db_5 (bt_of (i := 29) lb_51 rfl rfl (by decide))
theorem dL_law_3294 : decode cL_law 3294 = .ok (.iadd, 1) := db_96 (bt_of (i := 30) lb_51 rfl rfl (by decide))
theorem dL_law_3295 : decode cL_law 3295 = .ok (.iaload, 1) := db_46 (bt_of (i := 31) lb_51 rfl rfl (by decide))
theorem dL_law_3296 : decode cL_law 3296 = .ok (.aload_n 0, 1) := db_42 (bt_of (i := 32) lb_51 rfl rfl (by decide))
theorem dL_law_3297 : decode cL_law 3297 = .ok (.iload 4, 2) := db_21 (bt_of (i := 33) lb_51 rfl rfl (by decide)) (bt_of (i := 34) lb_51 rfl rfl (by decide))
theorem dL_law_3299 : decode cL_law 3299 = .ok (.iconst 3, 1) := db_6 (bt_of (i := 35) lb_51 rfl rfl (by decide))
theorem dL_law_3300 : decode cL_law 3300 = .ok (.iadd, 1) := db_96 (bt_of (i := 36) lb_51 rfl rfl (by decide))
theorem dL_law_3301 : decode cL_law 3301 = .ok (.iaload, 1) := db_46 (bt_of (i := 37) lb_51 rfl rfl (by decide))
theorem dL_law_3302 : decode cL_law 3302 = .ok (.ifCond .eq 7, 3) := db_153 (bt_of (i := 38) lb_51 rfl rfl (by decide)) (bt_of (i := 39) lb_51 rfl rfl (by decide)) (bt_of (i := 40) lb_51 rfl rfl (by decide)) (by decide +kernel)
theorem dL_law_3305 : decode cL_law 3305 = .ok (.iconst 1, 1) := db_4 (bt_of (i := 41) lb_51 rfl rfl (by decide))
theorem dL_law_3306 : decode cL_law 3306 = .ok (.goto 4, 3) := db_167 (bt_of (i := 42) lb_51 rfl rfl (by decide)) (bt_of (i := 43) lb_51 rfl rfl (by decide)) (bt_of (i := 44) lb_51 rfl rfl (by decide)) (by decide +kernel)
theorem dL_law_3309 : decode cL_law 3309 = .ok (.iconst 0, 1) := db_3 (bt_of (i := 45) lb_51 rfl rfl (by decide))
theorem dL_law_3310 : decode cL_law 3310 = .ok (.aload_n 3, 1) := db_45 (bt_of (i := 46) lb_51 rfl rfl (by decide))
theorem dL_law_3311 : decode cL_law 3311 = .ok (.invokestatic 313, 3) := db_184 (bt_of (i := 47) lb_51 rfl rfl (by decide)) (bt_of (i := 48) lb_51 rfl rfl (by decide)) (bt_of (i := 49) lb_51 rfl rfl (by decide))
theorem dL_law_3314 : decode cL_law 3314 = .ok (.istore 5, 2) := db_54 (bt_of (i := 50) lb_51 rfl rfl (by decide)) (bt_of (i := 51) lb_51 rfl rfl (by decide))
theorem dL_law_3316 : decode cL_law 3316 = .ok (.aload_n 2, 1) := db_44 (bt_of (i := 52) lb_51 rfl rfl (by decide))
theorem dL_law_3317 : decode cL_law 3317 = .ok (.aload_n 0, 1) := db_42 (bt_of (i := 53) lb_51 rfl rfl (by decide))
theorem dL_law_3318 : decode cL_law 3318 = .ok (.iload 4, 2) := db_21 (bt_of (i := 54) lb_51 rfl rfl (by decide)) (bt_of (i := 55) lb_51 rfl rfl (by decide))
theorem dL_law_3320 : decode cL_law 3320 = .ok (.iconst 1, 1) := db_4 (bt_of (i := 56) lb_51 rfl rfl (by decide))
theorem dL_law_3321 : decode cL_law 3321 = .ok (.iadd, 1) := db_96 (bt_of (i := 57) lb_51 rfl rfl (by decide))
theorem dL_law_3322 : decode cL_law 3322 = .ok (.iaload, 1) := db_46 (bt_of (i := 58) lb_51 rfl rfl (by decide))
theorem dL_law_3323 : decode cL_law 3323 = .ok (.aload_n 0, 1) := db_42 (bt_of (i := 59) lb_51 rfl rfl (by decide))
theorem dL_law_3324 : decode cL_law 3324 = .ok (.iload 4, 2) := db_21 (bt_of (i := 60) lb_51 rfl rfl (by decide)) (bt_of (i := 61) lb_51 rfl rfl (by decide))
theorem dL_law_3326 : decode cL_law 3326 = .ok (.iconst 2, 1) := db_5 (bt_of (i := 62) lb_51 rfl rfl (by decide))
theorem dL_law_3327 : decode cL_law 3327 = .ok (.iadd, 1) := db_96 (bt_of (i := 63) lb_51 rfl rfl (by decide))
theorem dL_law_3328 : decode cL_law 3328 = .ok (.iaload, 1) := db_46 (bt_of (i := 0) lb_52 rfl rfl (by decide))
theorem dL_law_3329 : decode cL_law 3329 = .ok (.aload_n 0, 1) := db_42 (bt_of (i := 1) lb_52 rfl rfl (by decide))
theorem dL_law_3330 : decode cL_law 3330 = .ok (.iload 4, 2) := db_21 (bt_of (i := 2) lb_52 rfl rfl (by decide)) (bt_of (i := 3) lb_52 rfl rfl (by decide))
theorem dL_law_3332 : decode cL_law 3332 = .ok (.iconst 3, 1) := db_6 (bt_of (i := 4) lb_52 rfl rfl (by decide))
theorem dL_law_3333 : decode cL_law 3333 = .ok (.iadd, 1) := db_96 (bt_of (i := 5) lb_52 rfl rfl (by decide))
theorem dL_law_3334 : decode cL_law 3334 = .ok (.iaload, 1) := db_46 (bt_of (i := 6) lb_52 rfl rfl (by decide))
theorem dL_law_3335 : decode cL_law 3335 = .ok (.ifCond .eq 7, 3) := db_153 (bt_of (i := 7) lb_52 rfl rfl (by decide)) (bt_of (i := 8) lb_52 rfl rfl (by decide)) (bt_of (i := 9) lb_52 rfl rfl (by decide)) (by decide +kernel)
theorem dL_law_3338 : decode cL_law 3338 = .ok (.iconst 1, 1) := db_4 (bt_of (i := 10) lb_52 rfl rfl (by decide))
theorem dL_law_3339 : decode cL_law 3339 = .ok (.goto 4, 3) := db_167 (bt_of (i := 11) lb_52 rfl rfl (by decide)) (bt_of (i := 12) lb_52 rfl rfl (by decide)) (bt_of (i := 13) lb_52 rfl rfl (by decide)) (by decide +kernel)
theorem dL_law_3342 : decode cL_law 3342 = .ok (.iconst 0, 1) := db_3 (bt_of (i := 14) lb_52 rfl rfl (by decide))
theorem dL_law_3343 : decode cL_law 3343 = .ok (.invokevirtual 315, 3) := db_182 (bt_of (i := 15) lb_52 rfl rfl (by decide)) (bt_of (i := 16) lb_52 rfl rfl (by decide)) (bt_of (i := 17) lb_52 rfl rfl (by decide))
theorem dL_law_3346 : decode cL_law 3346 = .ok (.lstore 6, 2) := db_55 (bt_of (i := 18) lb_52 rfl rfl (by decide)) (bt_of (i := 19) lb_52 rfl rfl (by decide))
theorem dL_law_3348 : decode cL_law 3348 = .ok (.aload_n 2, 1) := db_44 (bt_of (i := 20) lb_52 rfl rfl (by decide))
theorem dL_law_3349 : decode cL_law 3349 = .ok (.invokevirtual 179, 3) := db_182 (bt_of (i := 21) lb_52 rfl rfl (by decide)) (bt_of (i := 22) lb_52 rfl rfl (by decide)) (bt_of (i := 23) lb_52 rfl rfl (by decide))
theorem dL_law_3352 : decode cL_law 3352 = .ok (.iload 5, 2) := db_21 (bt_of (i := 24) lb_52 rfl rfl (by decide)) (bt_of (i := 25) lb_52 rfl rfl (by decide))
theorem dL_law_3354 : decode cL_law 3354 = .ok (.if_icmp .eq 5, 3) := db_159 (bt_of (i := 26) lb_52 rfl rfl (by decide)) (bt_of (i := 27) lb_52 rfl rfl (by decide)) (bt_of (i := 28) lb_52 rfl rfl (by decide)) (by decide +kernel)
theorem dL_law_3357 : decode cL_law 3357 = .ok (.iconst 0, 1) := db_3 (bt_of (i := 29) lb_52 rfl rfl (by decide))
theorem dL_law_3358 : decode cL_law 3358 = .ok (.ireturn, 1) := db_172 (bt_of (i := 30) lb_52 rfl rfl (by decide))
theorem dL_law_3359 : decode cL_law 3359 = .ok (.iload 5, 2) := db_21 (bt_of (i := 31) lb_52 rfl rfl (by decide)) (bt_of (i := 32) lb_52 rfl rfl (by decide))
theorem dL_law_3361 : decode cL_law 3361 = .ok (.ifCond .ne 14, 3) := db_154 (bt_of (i := 33) lb_52 rfl rfl (by decide)) (bt_of (i := 34) lb_52 rfl rfl (by decide)) (bt_of (i := 35) lb_52 rfl rfl (by decide)) (by decide +kernel)
theorem dL_law_3364 : decode cL_law 3364 = .ok (.aload_n 3, 1) := db_45 (bt_of (i := 36) lb_52 rfl rfl (by decide))
theorem dL_law_3365 : decode cL_law 3365 = .ok (.iconst 0, 1) := db_3 (bt_of (i := 37) lb_52 rfl rfl (by decide))
theorem dL_law_3366 : decode cL_law 3366 = .ok (.laload, 1) := db_47 (bt_of (i := 38) lb_52 rfl rfl (by decide))
theorem dL_law_3367 : decode cL_law 3367 = .ok (.lload 6, 2) := db_22 (bt_of (i := 39) lb_52 rfl rfl (by decide)) (bt_of (i := 40) lb_52 rfl rfl (by decide))
theorem dL_law_3369 : decode cL_law 3369 = .ok (.lcmp, 1) := db_148 (bt_of (i := 41) lb_52 rfl rfl (by decide))
theorem dL_law_3370 : decode cL_law 3370 = .ok (.ifCond .eq 5, 3) := db_153 (bt_of (i := 42) lb_52 rfl rfl (by decide)) (bt_of (i := 43) lb_52 rfl rfl (by decide)) (bt_of (i := 44) lb_52 rfl rfl (by decide)) (by decide +kernel)
theorem dL_law_3373 : decode cL_law 3373 = .ok (.iconst 0, 1) := db_3 (bt_of (i := 45) lb_52 rfl rfl (by decide))
theorem dL_law_3374 : decode cL_law 3374 = .ok (.ireturn, 1) := db_172 (bt_of (i := 46) lb_52 rfl rfl (by decide))
theorem dL_law_3375 : decode cL_law 3375 = .ok (.goto 172, 3) := db_167 (bt_of (i := 47) lb_52 rfl rfl (by decide)) (bt_of (i := 48) lb_52 rfl rfl (by decide)) (bt_of (i := 49) lb_52 rfl rfl (by decide)) (by decide +kernel)
theorem dL_law_3378 : decode cL_law 3378 = .ok (.aload_n 1, 1) := db_43 (bt_of (i := 50) lb_52 rfl rfl (by decide))
theorem dL_law_3379 : decode cL_law 3379 = .ok (.aload_n 0, 1) := db_42 (bt_of (i := 51) lb_52 rfl rfl (by decide))
theorem dL_law_3380 : decode cL_law 3380 = .ok (.iload 4, 2) := db_21 (bt_of (i := 52) lb_52 rfl rfl (by decide)) (bt_of (i := 53) lb_52 rfl rfl (by decide))
theorem dL_law_3382 : decode cL_law 3382 = .ok (.iconst 1, 1) := db_4 (bt_of (i := 54) lb_52 rfl rfl (by decide))
theorem dL_law_3383 : decode cL_law 3383 = .ok (.iadd, 1) := db_96 (bt_of (i := 55) lb_52 rfl rfl (by decide))
theorem dL_law_3384 : decode cL_law 3384 = .ok (.iaload, 1) := db_46 (bt_of (i := 56) lb_52 rfl rfl (by decide))
theorem dL_law_3385 : decode cL_law 3385 = .ok (.aload_n 3, 1) := db_45 (bt_of (i := 57) lb_52 rfl rfl (by decide))
theorem dL_law_3386 : decode cL_law 3386 = .ok (.invokestatic 316, 3) := db_184 (bt_of (i := 58) lb_52 rfl rfl (by decide)) (bt_of (i := 59) lb_52 rfl rfl (by decide)) (bt_of (i := 60) lb_52 rfl rfl (by decide))
theorem dL_law_3389 : decode cL_law 3389 = .ok (.istore 5, 2) := db_54 (bt_of (i := 61) lb_52 rfl rfl (by decide)) (bt_of (i := 62) lb_52 rfl rfl (by decide))
theorem dL_law_3391 : decode cL_law 3391 = .ok (.aload_n 2, 1) := db_44 (bt_of (i := 63) lb_52 rfl rfl (by decide))
theorem dL_law_3392 : decode cL_law 3392 = .ok (.aload_n 0, 1) := db_42 (bt_of (i := 0) lb_53 rfl rfl (by decide))
theorem dL_law_3393 : decode cL_law 3393 = .ok (.iload 4, 2) := db_21 (bt_of (i := 1) lb_53 rfl rfl (by decide)) (bt_of (i := 2) lb_53 rfl rfl (by decide))
theorem dL_law_3395 : decode cL_law 3395 = .ok (.iconst 1, 1) := db_4 (bt_of (i := 3) lb_53 rfl rfl (by decide))
theorem dL_law_3396 : decode cL_law 3396 = .ok (.iadd, 1) := db_96 (bt_of (i := 4) lb_53 rfl rfl (by decide))
theorem dL_law_3397 : decode cL_law 3397 = .ok (.iaload, 1) := db_46 (bt_of (i := 5) lb_53 rfl rfl (by decide))
theorem dL_law_3398 : decode cL_law 3398 = .ok (.invokevirtual 318, 3) := db_182 (bt_of (i := 6) lb_53 rfl rfl (by decide)) (bt_of (i := 7) lb_53 rfl rfl (by decide)) (bt_of (i := 8) lb_53 rfl rfl (by decide))
theorem dL_law_3401 : decode cL_law 3401 = .ok (.istore 6, 2) := db_54 (bt_of (i := 9) lb_53 rfl rfl (by decide)) (bt_of (i := 10) lb_53 rfl rfl (by decide))
theorem dL_law_3403 : decode cL_law 3403 = .ok (.aload_n 2, 1) := db_44 (bt_of (i := 11) lb_53 rfl rfl (by decide))
theorem dL_law_3404 : decode cL_law 3404 = .ok (.invokevirtual 179, 3) := db_182 (bt_of (i := 12) lb_53 rfl rfl (by decide)) (bt_of (i := 13) lb_53 rfl rfl (by decide)) (bt_of (i := 14) lb_53 rfl rfl (by decide))
theorem dL_law_3407 : decode cL_law 3407 = .ok (.iload 5, 2) := db_21 (bt_of (i := 15) lb_53 rfl rfl (by decide)) (bt_of (i := 16) lb_53 rfl rfl (by decide))
theorem dL_law_3409 : decode cL_law 3409 = .ok (.if_icmp .eq 5, 3) := db_159 (bt_of (i := 17) lb_53 rfl rfl (by decide)) (bt_of (i := 18) lb_53 rfl rfl (by decide)) (bt_of (i := 19) lb_53 rfl rfl (by decide)) (by decide +kernel)
theorem dL_law_3412 : decode cL_law 3412 = .ok (.iconst 0, 1) := db_3 (bt_of (i := 20) lb_53 rfl rfl (by decide))
theorem dL_law_3413 : decode cL_law 3413 = .ok (.ireturn, 1) := db_172 (bt_of (i := 21) lb_53 rfl rfl (by decide))
theorem dL_law_3414 : decode cL_law 3414 = .ok (.iload 5, 2) := db_21 (bt_of (i := 22) lb_53 rfl rfl (by decide)) (bt_of (i := 23) lb_53 rfl rfl (by decide))
theorem dL_law_3416 : decode cL_law 3416 = .ok (.ifCond .ne 15, 3) := db_154 (bt_of (i := 24) lb_53 rfl rfl (by decide)) (bt_of (i := 25) lb_53 rfl rfl (by decide)) (bt_of (i := 26) lb_53 rfl rfl (by decide)) (by decide +kernel)
theorem dL_law_3419 : decode cL_law 3419 = .ok (.aload_n 3, 1) := db_45 (bt_of (i := 27) lb_53 rfl rfl (by decide))
theorem dL_law_3420 : decode cL_law 3420 = .ok (.iconst 0, 1) := db_3 (bt_of (i := 28) lb_53 rfl rfl (by decide))
theorem dL_law_3421 : decode cL_law 3421 = .ok (.laload, 1) := db_47 (bt_of (i := 29) lb_53 rfl rfl (by decide))
theorem dL_law_3422 : decode cL_law 3422 = .ok (.iload 6, 2) := db_21 (bt_of (i := 30) lb_53 rfl rfl (by decide)) (bt_of (i := 31) lb_53 rfl rfl (by decide))
theorem dL_law_3424 : decode cL_law 3424 = .ok (.i2l, 1) := db_133 (bt_of (i := 32) lb_53 rfl rfl (by decide))
theorem dL_law_3425 : decode cL_law 3425 = .ok (.lcmp, 1) := db_148 (bt_of (i := 33) lb_53 rfl rfl (by decide))
theorem dL_law_3426 : decode cL_law 3426 = .ok (.ifCond .eq 5, 3) := db_153 (bt_of (i := 34) lb_53 rfl rfl (by decide)) (bt_of (i := 35) lb_53 rfl rfl (by decide)) (bt_of (i := 36) lb_53 rfl rfl (by decide)) (by decide +kernel)
theorem dL_law_3429 : decode cL_law 3429 = .ok (.iconst 0, 1) := db_3 (bt_of (i := 37) lb_53 rfl rfl (by decide))
theorem dL_law_3430 : decode cL_law 3430 = .ok (.ireturn, 1) := db_172 (bt_of (i := 38) lb_53 rfl rfl (by decide))
theorem dL_law_3431 : decode cL_law 3431 = .ok (.goto 116, 3) := db_167 (bt_of (i := 39) lb_53 rfl rfl (by decide)) (bt_of (i := 40) lb_53 rfl rfl (by decide)) (bt_of (i := 41) lb_53 rfl rfl (by decide)) (by decide +kernel)
theorem dL_law_3434 : decode cL_law 3434 = .ok (.aload_n 1, 1) := db_43 (bt_of (i := 42) lb_53 rfl rfl (by decide))
theorem dL_law_3435 : decode cL_law 3435 = .ok (.aload_n 0, 1) := db_42 (bt_of (i := 43) lb_53 rfl rfl (by decide))
theorem dL_law_3436 : decode cL_law 3436 = .ok (.iload 4, 2) := db_21 (bt_of (i := 44) lb_53 rfl rfl (by decide)) (bt_of (i := 45) lb_53 rfl rfl (by decide))
theorem dL_law_3438 : decode cL_law 3438 = .ok (.iconst 1, 1) := db_4 (bt_of (i := 46) lb_53 rfl rfl (by decide))
theorem dL_law_3439 : decode cL_law 3439 = .ok (.iadd, 1) := db_96 (bt_of (i := 47) lb_53 rfl rfl (by decide))
theorem dL_law_3440 : decode cL_law 3440 = .ok (.iaload, 1) := db_46 (bt_of (i := 48) lb_53 rfl rfl (by decide))
theorem dL_law_3441 : decode cL_law 3441 = .ok (.aload_n 3, 1) := db_45 (bt_of (i := 49) lb_53 rfl rfl (by decide))
theorem dL_law_3442 : decode cL_law 3442 = .ok (.invokestatic 319, 3) := db_184 (bt_of (i := 50) lb_53 rfl rfl (by decide)) (bt_of (i := 51) lb_53 rfl rfl (by decide)) (bt_of (i := 52) lb_53 rfl rfl (by decide))
theorem dL_law_3445 : decode cL_law 3445 = .ok (.istore 5, 2) := db_54 (bt_of (i := 53) lb_53 rfl rfl (by decide)) (bt_of (i := 54) lb_53 rfl rfl (by decide))
theorem dL_law_3447 : decode cL_law 3447 = .ok (.aload_n 2, 1) := db_44 (bt_of (i := 55) lb_53 rfl rfl (by decide))
theorem dL_law_3448 : decode cL_law 3448 = .ok (.aload_n 0, 1) := db_42 (bt_of (i := 56) lb_53 rfl rfl (by decide))
theorem dL_law_3449 : decode cL_law 3449 = .ok (.iload 4, 2) := db_21 (bt_of (i := 57) lb_53 rfl rfl (by decide)) (bt_of (i := 58) lb_53 rfl rfl (by decide))
theorem dL_law_3451 : decode cL_law 3451 = .ok (.iconst 1, 1) := db_4 (bt_of (i := 59) lb_53 rfl rfl (by decide))
theorem dL_law_3452 : decode cL_law 3452 = .ok (.iadd, 1) := db_96 (bt_of (i := 60) lb_53 rfl rfl (by decide))
theorem dL_law_3453 : decode cL_law 3453 = .ok (.iaload, 1) := db_46 (bt_of (i := 61) lb_53 rfl rfl (by decide))
theorem dL_law_3454 : decode cL_law 3454 = .ok (.invokevirtual 321, 3) := db_182 (bt_of (i := 62) lb_53 rfl rfl (by decide)) (bt_of (i := 63) lb_53 rfl rfl (by decide)) (bt_of (i := 0) lb_54 rfl rfl (by decide))
theorem dL_law_3457 : decode cL_law 3457 = .ok (.istore 6, 2) := db_54 (bt_of (i := 1) lb_54 rfl rfl (by decide)) (bt_of (i := 2) lb_54 rfl rfl (by decide))
theorem dL_law_3459 : decode cL_law 3459 = .ok (.aload_n 2, 1) := db_44 (bt_of (i := 3) lb_54 rfl rfl (by decide))
theorem dL_law_3460 : decode cL_law 3460 = .ok (.invokevirtual 179, 3) := db_182 (bt_of (i := 4) lb_54 rfl rfl (by decide)) (bt_of (i := 5) lb_54 rfl rfl (by decide)) (bt_of (i := 6) lb_54 rfl rfl (by decide))
theorem dL_law_3463 : decode cL_law 3463 = .ok (.iload 5, 2) := db_21 (bt_of (i := 7) lb_54 rfl rfl (by decide)) (bt_of (i := 8) lb_54 rfl rfl (by decide))
theorem dL_law_3465 : decode cL_law 3465 = .ok (.if_icmp .eq 5, 3) := db_159 (bt_of (i := 9) lb_54 rfl rfl (by decide)) (bt_of (i := 10) lb_54 rfl rfl (by decide)) (bt_of (i := 11) lb_54 rfl rfl (by decide)) (by decide +kernel)
theorem dL_law_3468 : decode cL_law 3468 = .ok (.iconst 0, 1) := db_3 (bt_of (i := 12) lb_54 rfl rfl (by decide))
theorem dL_law_3469 : decode cL_law 3469 = .ok (.ireturn, 1) := db_172 (bt_of (i := 13) lb_54 rfl rfl (by decide))
theorem dL_law_3470 : decode cL_law 3470 = .ok (.iload 5, 2) := db_21 (bt_of (i := 14) lb_54 rfl rfl (by decide)) (bt_of (i := 15) lb_54 rfl rfl (by decide))
theorem dL_law_3472 : decode cL_law 3472 = .ok (.ifCond .ne 15, 3) := db_154 (bt_of (i := 16) lb_54 rfl rfl (by decide)) (bt_of (i := 17) lb_54 rfl rfl (by decide)) (bt_of (i := 18) lb_54 rfl rfl (by decide)) (by decide +kernel)
theorem dL_law_3475 : decode cL_law 3475 = .ok (.aload_n 3, 1) := db_45 (bt_of (i := 19) lb_54 rfl rfl (by decide))
theorem dL_law_3476 : decode cL_law 3476 = .ok (.iconst 0, 1) := db_3 (bt_of (i := 20) lb_54 rfl rfl (by decide))
theorem dL_law_3477 : decode cL_law 3477 = .ok (.laload, 1) := db_47 (bt_of (i := 21) lb_54 rfl rfl (by decide))
theorem dL_law_3478 : decode cL_law 3478 = .ok (.iload 6, 2) := db_21 (bt_of (i := 22) lb_54 rfl rfl (by decide)) (bt_of (i := 23) lb_54 rfl rfl (by decide))
theorem dL_law_3480 : decode cL_law 3480 = .ok (.i2l, 1) := db_133 (bt_of (i := 24) lb_54 rfl rfl (by decide))
theorem dL_law_3481 : decode cL_law 3481 = .ok (.lcmp, 1) := db_148 (bt_of (i := 25) lb_54 rfl rfl (by decide))
theorem dL_law_3482 : decode cL_law 3482 = .ok (.ifCond .eq 5, 3) := db_153 (bt_of (i := 26) lb_54 rfl rfl (by decide)) (bt_of (i := 27) lb_54 rfl rfl (by decide)) (bt_of (i := 28) lb_54 rfl rfl (by decide)) (by decide +kernel)
theorem dL_law_3485 : decode cL_law 3485 = .ok (.iconst 0, 1) := db_3 (bt_of (i := 29) lb_54 rfl rfl (by decide))
theorem dL_law_3486 : decode cL_law 3486 = .ok (.ireturn, 1) := db_172 (bt_of (i := 30) lb_54 rfl rfl (by decide))
theorem dL_law_3487 : decode cL_law 3487 = .ok (.goto 60, 3) := db_167 (bt_of (i := 31) lb_54 rfl rfl (by decide)) (bt_of (i := 32) lb_54 rfl rfl (by decide)) (bt_of (i := 33) lb_54 rfl rfl (by decide)) (by decide +kernel)
theorem dL_law_3490 : decode cL_law 3490 = .ok (.aload_n 1, 1) := db_43 (bt_of (i := 34) lb_54 rfl rfl (by decide))
theorem dL_law_3491 : decode cL_law 3491 = .ok (.aload_n 3, 1) := db_45 (bt_of (i := 35) lb_54 rfl rfl (by decide))
theorem dL_law_3492 : decode cL_law 3492 = .ok (.invokestatic 322, 3) := db_184 (bt_of (i := 36) lb_54 rfl rfl (by decide)) (bt_of (i := 37) lb_54 rfl rfl (by decide)) (bt_of (i := 38) lb_54 rfl rfl (by decide))
theorem dL_law_3495 : decode cL_law 3495 = .ok (.istore 5, 2) := db_54 (bt_of (i := 39) lb_54 rfl rfl (by decide)) (bt_of (i := 40) lb_54 rfl rfl (by decide))
theorem dL_law_3497 : decode cL_law 3497 = .ok (.aload_n 2, 1) := db_44 (bt_of (i := 41) lb_54 rfl rfl (by decide))
theorem dL_law_3498 : decode cL_law 3498 = .ok (.invokevirtual 325, 3) := db_182 (bt_of (i := 42) lb_54 rfl rfl (by decide)) (bt_of (i := 43) lb_54 rfl rfl (by decide)) (bt_of (i := 44) lb_54 rfl rfl (by decide))
theorem dL_law_3501 : decode cL_law 3501 = .ok (.istore 6, 2) := db_54 (bt_of (i := 45) lb_54 rfl rfl (by decide)) (bt_of (i := 46) lb_54 rfl rfl (by decide))
theorem dL_law_3503 : decode cL_law 3503 = .ok (.aload_n 2, 1) := db_44 (bt_of (i := 47) lb_54 rfl rfl (by decide))
theorem dL_law_3504 : decode cL_law 3504 = .ok (.invokevirtual 179, 3) := db_182 (bt_of (i := 48) lb_54 rfl rfl (by decide)) (bt_of (i := 49) lb_54 rfl rfl (by decide)) (bt_of (i := 50) lb_54 rfl rfl (by decide))
theorem dL_law_3507 : decode cL_law 3507 = .ok (.iload 5, 2) := db_21 (bt_of (i := 51) lb_54 rfl rfl (by decide)) (bt_of (i := 52) lb_54 rfl rfl (by decide))
theorem dL_law_3509 : decode cL_law 3509 = .ok (.if_icmp .eq 5, 3) := db_159 (bt_of (i := 53) lb_54 rfl rfl (by decide)) (bt_of (i := 54) lb_54 rfl rfl (by decide)) (bt_of (i := 55) lb_54 rfl rfl (by decide)) (by decide +kernel)
theorem dL_law_3512 : decode cL_law 3512 = .ok (.iconst 0, 1) := db_3 (bt_of (i := 56) lb_54 rfl rfl (by decide))
theorem dL_law_3513 : decode cL_law 3513 = .ok (.ireturn, 1) := db_172 (bt_of (i := 57) lb_54 rfl rfl (by decide))
theorem dL_law_3514 : decode cL_law 3514 = .ok (.iload 5, 2) := db_21 (bt_of (i := 58) lb_54 rfl rfl (by decide)) (bt_of (i := 59) lb_54 rfl rfl (by decide))
theorem dL_law_3516 : decode cL_law 3516 = .ok (.ifCond .ne 15, 3) := db_154 (bt_of (i := 60) lb_54 rfl rfl (by decide)) (bt_of (i := 61) lb_54 rfl rfl (by decide)) (bt_of (i := 62) lb_54 rfl rfl (by decide)) (by decide +kernel)
theorem dL_law_3519 : decode cL_law 3519 = .ok (.aload_n 3, 1) := db_45 (bt_of (i := 63) lb_54 rfl rfl (by decide))
theorem dL_law_3520 : decode cL_law 3520 = .ok (.iconst 0, 1) := db_3 (bt_of (i := 0) lb_55 rfl rfl (by decide))
theorem dL_law_3521 : decode cL_law 3521 = .ok (.laload, 1) := db_47 (bt_of (i := 1) lb_55 rfl rfl (by decide))
theorem dL_law_3522 : decode cL_law 3522 = .ok (.iload 6, 2) := db_21 (bt_of (i := 2) lb_55 rfl rfl (by decide)) (bt_of (i := 3) lb_55 rfl rfl (by decide))
theorem dL_law_3524 : decode cL_law 3524 = .ok (.i2l, 1) := db_133 (bt_of (i := 4) lb_55 rfl rfl (by decide))
theorem dL_law_3525 : decode cL_law 3525 = .ok (.lcmp, 1) := db_148 (bt_of (i := 5) lb_55 rfl rfl (by decide))
theorem dL_law_3526 : decode cL_law 3526 = .ok (.ifCond .eq 5, 3) := db_153 (bt_of (i := 6) lb_55 rfl rfl (by decide)) (bt_of (i := 7) lb_55 rfl rfl (by decide)) (bt_of (i := 8) lb_55 rfl rfl (by decide)) (by decide +kernel)
theorem dL_law_3529 : decode cL_law 3529 = .ok (.iconst 0, 1) := db_3 (bt_of (i := 9) lb_55 rfl rfl (by decide))
theorem dL_law_3530 : decode cL_law 3530 = .ok (.ireturn, 1) := db_172 (bt_of (i := 10) lb_55 rfl rfl (by decide))
theorem dL_law_3531 : decode cL_law 3531 = .ok (.goto 16, 3) := db_167 (bt_of (i := 11) lb_55 rfl rfl (by decide)) (bt_of (i := 12) lb_55 rfl rfl (by decide)) (bt_of (i := 13) lb_55 rfl rfl (by decide)) (by decide +kernel)
theorem dL_law_3534 : decode cL_law 3534 = .ok (.aload_n 1, 1) := db_43 (bt_of (i := 14) lb_55 rfl rfl (by decide))
theorem dL_law_3535 : decode cL_law 3535 = .ok (.invokevirtual 326, 3) := db_182 (bt_of (i := 15) lb_55 rfl rfl (by decide)) (bt_of (i := 16) lb_55 rfl rfl (by decide)) (bt_of (i := 17) lb_55 rfl rfl (by decide))
theorem dL_law_3538 : decode cL_law 3538 = .ok (.aload_n 2, 1) := db_44 (bt_of (i := 18) lb_55 rfl rfl (by decide))
theorem dL_law_3539 : decode cL_law 3539 = .ok (.invokevirtual 330, 3) := db_182 (bt_of (i := 19) lb_55 rfl rfl (by decide)) (bt_of (i := 20) lb_55 rfl rfl (by decide)) (bt_of (i := 21) lb_55 rfl rfl (by decide))
theorem dL_law_3542 : decode cL_law 3542 = .ok (.if_icmp .eq 5, 3) := db_159 (bt_of (i := 22) lb_55 rfl rfl (by decide)) (bt_of (i := 23) lb_55 rfl rfl (by decide)) (bt_of (i := 24) lb_55 rfl rfl (by decide)) (by decide +kernel)
theorem dL_law_3545 : decode cL_law 3545 = .ok (.iconst 0, 1) := db_3 (bt_of (i := 25) lb_55 rfl rfl (by decide))
theorem dL_law_3546 : decode cL_law 3546 = .ok (.ireturn, 1) := db_172 (bt_of (i := 26) lb_55 rfl rfl (by decide))
theorem dL_law_3547 : decode cL_law 3547 = .ok (.iinc 4 7, 3) := db_132 (bt_of (i := 27) lb_55 rfl rfl (by decide)) (bt_of (i := 28) lb_55 rfl rfl (by decide)) (bt_of (i := 29) lb_55 rfl rfl (by decide))
theorem dL_law_3550 : decode cL_law 3550 = .ok (.goto (-3527), 3) := db_167 (bt_of (i := 30) lb_55 rfl rfl (by decide)) (bt_of (i := 31) lb_55 rfl rfl (by decide)) (bt_of (i := 32) lb_55 rfl rfl (by decide)) (by decide +kernel)
theorem dL_law_3553 : decode cL_law 3553 = .ok (.iconst 1, 1) := db_4 (bt_of (i := 33) lb_55 rfl rfl (by decide))
theorem dL_law_3554 : decode cL_law 3554 = .ok (.ireturn, 1) := db_172 (bt_of (i := 34) lb_55 rfl rfl (by decide))
theorem dL_put_0 : decode cL_put 0 = .ok (.aload 5, 2) := by decide +kernel
theorem dL_put_2 : decode cL_put 2 = .ok (.iconst 0, 1) := by decide +kernel
theorem dL_put_3 : decode cL_put 3 = .ok (.aload_n 0, 1) := by decide +kernel
theorem dL_put_4 : decode cL_put 4 = .ok (.iload_n 1, 1) := by decide +kernel
theorem dL_put_5 : decode cL_put 5 = .ok (.lload_n 2, 1) := by decide +kernel
theorem dL_put_6 : decode cL_put 6 = .ok (.iload 4, 2) := by decide +kernel
theorem dL_put_8 : decode cL_put 8 = .ok (.invokevirtual 7, 3) := by decide +kernel
theorem dL_put_11 : decode cL_put 11 = .ok (.i2l, 1) := by decide +kernel
theorem dL_put_12 : decode cL_put 12 = .ok (.lastore, 1) := by decide +kernel
theorem dL_put_13 : decode cL_put 13 = .ok (.goto 11, 3) := by decide +kernel
theorem dL_put_16 : decode cL_put 16 = .ok (.astore 6, 2) := by decide +kernel
theorem dL_put_18 : decode cL_put 18 = .ok (.iconst 1, 1) := by decide +kernel
theorem dL_put_19 : decode cL_put 19 = .ok (.ireturn, 1) := by decide +kernel
theorem dL_put_20 : decode cL_put 20 = .ok (.astore 6, 2) := by decide +kernel
theorem dL_put_22 : decode cL_put 22 = .ok (.iconst 2, 1) := by decide +kernel
theorem dL_put_23 : decode cL_put 23 = .ok (.ireturn, 1) := by decide +kernel
theorem dL_put_24 : decode cL_put 24 = .ok (.iconst 0, 1) := by decide +kernel
theorem dL_put_25 : decode cL_put 25 = .ok (.ireturn, 1) := by decide +kernel
theorem dL_type_0 : decode cL_type 0 = .ok (.aload_n 2, 1) := by decide +kernel
theorem dL_type_1 : decode cL_type 1 = .ok (.iconst 0, 1) := by decide +kernel
theorem dL_type_2 : decode cL_type 2 = .ok (.aload_n 0, 1) := by decide +kernel
theorem dL_type_3 : decode cL_type 3 = .ok (.iload_n 1, 1) := by decide +kernel
theorem dL_type_4 : decode cL_type 4 = .ok (.invokevirtual 17, 3) := by decide +kernel
theorem dL_type_7 : decode cL_type 7 = .ok (.i2l, 1) := by decide +kernel
theorem dL_type_8 : decode cL_type 8 = .ok (.lastore, 1) := by decide +kernel
theorem dL_type_9 : decode cL_type 9 = .ok (.goto 6, 3) := by decide +kernel
theorem dL_type_12 : decode cL_type 12 = .ok (.astore_n 3, 1) := by decide +kernel
theorem dL_type_13 : decode cL_type 13 = .ok (.iconst 1, 1) := by decide +kernel
theorem dL_type_14 : decode cL_type 14 = .ok (.ireturn, 1) := by decide +kernel
theorem dL_type_15 : decode cL_type 15 = .ok (.iconst 0, 1) := by decide +kernel
theorem dL_type_16 : decode cL_type 16 = .ok (.ireturn, 1) := by decide +kernel
theorem dL_read_0 : decode cL_read 0 = .ok (.aload_n 2, 1) := by decide +kernel
theorem dL_read_1 : decode cL_read 1 = .ok (.iconst 0, 1) := by decide +kernel
theorem dL_read_2 : decode cL_read 2 = .ok (.aload_n 0, 1) := by decide +kernel
theorem dL_read_3 : decode cL_read 3 = .ok (.iload_n 1, 1) := by decide +kernel
theorem dL_read_4 : decode cL_read 4 = .ok (.invokevirtual 23, 3) := by decide +kernel
theorem dL_read_7 : decode cL_read 7 = .ok (.i2l, 1) := by decide +kernel
theorem dL_read_8 : decode cL_read 8 = .ok (.lastore, 1) := by decide +kernel
theorem dL_read_9 : decode cL_read 9 = .ok (.goto 12, 3) := by decide +kernel
theorem dL_read_12 : decode cL_read 12 = .ok (.astore_n 3, 1) := by decide +kernel
theorem dL_read_13 : decode cL_read 13 = .ok (.iconst 1, 1) := by decide +kernel
theorem dL_read_14 : decode cL_read 14 = .ok (.ireturn, 1) := by decide +kernel
theorem dL_read_15 : decode cL_read 15 = .ok (.astore_n 3, 1) := by decide +kernel
theorem dL_read_16 : decode cL_read 16 = .ok (.iconst 2, 1) := by decide +kernel
theorem dL_read_17 : decode cL_read 17 = .ok (.ireturn, 1) := by decide +kernel
theorem dL_read_18 : decode cL_read 18 = .ok (.astore_n 3, 1) := by decide +kernel
theorem dL_read_19 : decode cL_read 19 = .ok (.iconst 3, 1) := by decide +kernel
theorem dL_read_20 : decode cL_read 20 = .ok (.ireturn, 1) := by decide +kernel
theorem dL_read_21 : decode cL_read 21 = .ok (.iconst 0, 1) := by decide +kernel
theorem dL_read_22 : decode cL_read 22 = .ok (.ireturn, 1) := by decide +kernel
theorem dL_unscaled_0 : decode cL_unscaled 0 = .ok (.aload_n 2, 1) := by decide +kernel
theorem dL_unscaled_1 : decode cL_unscaled 1 = .ok (.iconst 0, 1) := by decide +kernel
theorem dL_unscaled_2 : decode cL_unscaled 2 = .ok (.aload_n 0, 1) := by decide +kernel
theorem dL_unscaled_3 : decode cL_unscaled 3 = .ok (.iload_n 1, 1) := by decide +kernel
theorem dL_unscaled_4 : decode cL_unscaled 4 = .ok (.invokevirtual 29, 3) := by decide +kernel
theorem dL_unscaled_7 : decode cL_unscaled 7 = .ok (.lastore, 1) := by decide +kernel
theorem dL_unscaled_8 : decode cL_unscaled 8 = .ok (.goto 9, 3) := by decide +kernel
theorem dL_unscaled_11 : decode cL_unscaled 11 = .ok (.astore_n 3, 1) := by decide +kernel
theorem dL_unscaled_12 : decode cL_unscaled 12 = .ok (.iconst 1, 1) := by decide +kernel
theorem dL_unscaled_13 : decode cL_unscaled 13 = .ok (.ireturn, 1) := by decide +kernel
theorem dL_unscaled_14 : decode cL_unscaled 14 = .ok (.astore_n 3, 1) := by decide +kernel
theorem dL_unscaled_15 : decode cL_unscaled 15 = .ok (.iconst 2, 1) := by decide +kernel
theorem dL_unscaled_16 : decode cL_unscaled 16 = .ok (.ireturn, 1) := by decide +kernel
theorem dL_unscaled_17 : decode cL_unscaled 17 = .ok (.iconst 0, 1) := by decide +kernel
theorem dL_unscaled_18 : decode cL_unscaled 18 = .ok (.ireturn, 1) := by decide +kernel
theorem dL_scale_0 : decode cL_scale 0 = .ok (.aload_n 2, 1) := by decide +kernel
theorem dL_scale_1 : decode cL_scale 1 = .ok (.iconst 0, 1) := by decide +kernel
theorem dL_scale_2 : decode cL_scale 2 = .ok (.aload_n 0, 1) := by decide +kernel
theorem dL_scale_3 : decode cL_scale 3 = .ok (.iload_n 1, 1) := by decide +kernel
theorem dL_scale_4 : decode cL_scale 4 = .ok (.invokevirtual 35, 3) := by decide +kernel
theorem dL_scale_7 : decode cL_scale 7 = .ok (.i2l, 1) := by decide +kernel
theorem dL_scale_8 : decode cL_scale 8 = .ok (.lastore, 1) := by decide +kernel
theorem dL_scale_9 : decode cL_scale 9 = .ok (.goto 9, 3) := by decide +kernel
theorem dL_scale_12 : decode cL_scale 12 = .ok (.astore_n 3, 1) := by decide +kernel
theorem dL_scale_13 : decode cL_scale 13 = .ok (.iconst 1, 1) := by decide +kernel
theorem dL_scale_14 : decode cL_scale 14 = .ok (.ireturn, 1) := by decide +kernel
theorem dL_scale_15 : decode cL_scale 15 = .ok (.astore_n 3, 1) := by decide +kernel
theorem dL_scale_16 : decode cL_scale 16 = .ok (.iconst 2, 1) := by decide +kernel
theorem dL_scale_17 : decode cL_scale 17 = .ok (.ireturn, 1) := by decide +kernel
theorem dL_scale_18 : decode cL_scale 18 = .ok (.iconst 0, 1) := by decide +kernel
theorem dL_scale_19 : decode cL_scale 19 = .ok (.ireturn, 1) := by decide +kernel
theorem dL_precision_0 : decode cL_precision 0 = .ok (.aload_n 2, 1) := by decide +kernel
theorem dL_precision_1 : decode cL_precision 1 = .ok (.iconst 0, 1) := by decide +kernel
theorem dL_precision_2 : decode cL_precision 2 = .ok (.aload_n 0, 1) := by decide +kernel
theorem dL_precision_3 : decode cL_precision 3 = .ok (.iload_n 1, 1) := by decide +kernel
theorem dL_precision_4 : decode cL_precision 4 = .ok (.invokevirtual 38, 3) := by decide +kernel
theorem dL_precision_7 : decode cL_precision 7 = .ok (.i2l, 1) := by decide +kernel
theorem dL_precision_8 : decode cL_precision 8 = .ok (.lastore, 1) := by decide +kernel
theorem dL_precision_9 : decode cL_precision 9 = .ok (.goto 9, 3) := by decide +kernel
theorem dL_precision_12 : decode cL_precision 12 = .ok (.astore_n 3, 1) := by decide +kernel
theorem dL_precision_13 : decode cL_precision 13 = .ok (.iconst 1, 1) := by decide +kernel
theorem dL_precision_14 : decode cL_precision 14 = .ok (.ireturn, 1) := by decide +kernel
theorem dL_precision_15 : decode cL_precision 15 = .ok (.astore_n 3, 1) := by decide +kernel
theorem dL_precision_16 : decode cL_precision 16 = .ok (.iconst 2, 1) := by decide +kernel
theorem dL_precision_17 : decode cL_precision 17 = .ok (.ireturn, 1) := by decide +kernel
theorem dL_precision_18 : decode cL_precision 18 = .ok (.iconst 0, 1) := by decide +kernel
theorem dL_precision_19 : decode cL_precision 19 = .ok (.ireturn, 1) := by decide +kernel
theorem dL_join_0 : decode cL_join 0 = .ok (.aload 5, 2) := by decide +kernel
theorem dL_join_2 : decode cL_join 2 = .ok (.iconst 0, 1) := by decide +kernel
theorem dL_join_3 : decode cL_join 3 = .ok (.aload_n 0, 1) := by decide +kernel
theorem dL_join_4 : decode cL_join 4 = .ok (.iload_n 1, 1) := by decide +kernel
theorem dL_join_5 : decode cL_join 5 = .ok (.iload_n 2, 1) := by decide +kernel
theorem dL_join_6 : decode cL_join 6 = .ok (.iload_n 3, 1) := by decide +kernel
theorem dL_join_7 : decode cL_join 7 = .ok (.iload 4, 2) := by decide +kernel
theorem dL_join_9 : decode cL_join 9 = .ok (.invokevirtual 41, 3) := by decide +kernel
theorem dL_join_12 : decode cL_join 12 = .ok (.i2l, 1) := by decide +kernel
theorem dL_join_13 : decode cL_join 13 = .ok (.lastore, 1) := by decide +kernel
theorem dL_join_14 : decode cL_join 14 = .ok (.goto 19, 3) := by decide +kernel
theorem dL_join_17 : decode cL_join 17 = .ok (.astore 6, 2) := by decide +kernel
theorem dL_join_19 : decode cL_join 19 = .ok (.iconst 1, 1) := by decide +kernel
theorem dL_join_20 : decode cL_join 20 = .ok (.ireturn, 1) := by decide +kernel
theorem dL_join_21 : decode cL_join 21 = .ok (.astore 6, 2) := by decide +kernel
theorem dL_join_23 : decode cL_join 23 = .ok (.iconst 2, 1) := by decide +kernel
theorem dL_join_24 : decode cL_join 24 = .ok (.ireturn, 1) := by decide +kernel
theorem dL_join_25 : decode cL_join 25 = .ok (.astore 6, 2) := by decide +kernel
theorem dL_join_27 : decode cL_join 27 = .ok (.iconst 3, 1) := by decide +kernel
theorem dL_join_28 : decode cL_join 28 = .ok (.ireturn, 1) := by decide +kernel
theorem dL_join_29 : decode cL_join 29 = .ok (.astore 6, 2) := by decide +kernel
theorem dL_join_31 : decode cL_join 31 = .ok (.iconst 4, 1) := by decide +kernel
theorem dL_join_32 : decode cL_join 32 = .ok (.ireturn, 1) := by decide +kernel
theorem dL_join_33 : decode cL_join 33 = .ok (.iconst 0, 1) := by decide +kernel
theorem dL_join_34 : decode cL_join 34 = .ok (.ireturn, 1) := by decide +kernel
theorem dL_turn_0 : decode cL_turn 0 = .ok (.aload 4, 2) := by decide +kernel
theorem dL_turn_2 : decode cL_turn 2 = .ok (.iconst 0, 1) := by decide +kernel
theorem dL_turn_3 : decode cL_turn 3 = .ok (.aload_n 0, 1) := by decide +kernel
theorem dL_turn_4 : decode cL_turn 4 = .ok (.iload_n 1, 1) := by decide +kernel
theorem dL_turn_5 : decode cL_turn 5 = .ok (.iload_n 2, 1) := by decide +kernel
theorem dL_turn_6 : decode cL_turn 6 = .ok (.iload_n 3, 1) := by decide +kernel
theorem dL_turn_7 : decode cL_turn 7 = .ok (.invokevirtual 45, 3) := by decide +kernel
theorem dL_turn_10 : decode cL_turn 10 = .ok (.i2l, 1) := by decide +kernel
theorem dL_turn_11 : decode cL_turn 11 = .ok (.lastore, 1) := by decide +kernel
theorem dL_turn_12 : decode cL_turn 12 = .ok (.goto 19, 3) := by decide +kernel
theorem dL_turn_15 : decode cL_turn 15 = .ok (.astore 5, 2) := by decide +kernel
theorem dL_turn_17 : decode cL_turn 17 = .ok (.iconst 1, 1) := by decide +kernel
theorem dL_turn_18 : decode cL_turn 18 = .ok (.ireturn, 1) := by decide +kernel
theorem dL_turn_19 : decode cL_turn 19 = .ok (.astore 5, 2) := by decide +kernel
theorem dL_turn_21 : decode cL_turn 21 = .ok (.iconst 2, 1) := by decide +kernel
theorem dL_turn_22 : decode cL_turn 22 = .ok (.ireturn, 1) := by decide +kernel
theorem dL_turn_23 : decode cL_turn 23 = .ok (.astore 5, 2) := by decide +kernel
theorem dL_turn_25 : decode cL_turn 25 = .ok (.iconst 3, 1) := by decide +kernel
theorem dL_turn_26 : decode cL_turn 26 = .ok (.ireturn, 1) := by decide +kernel
theorem dL_turn_27 : decode cL_turn 27 = .ok (.astore 5, 2) := by decide +kernel
theorem dL_turn_29 : decode cL_turn 29 = .ok (.iconst 4, 1) := by decide +kernel
theorem dL_turn_30 : decode cL_turn 30 = .ok (.ireturn, 1) := by decide +kernel
theorem dL_turn_31 : decode cL_turn 31 = .ok (.iconst 0, 1) := by decide +kernel
theorem dL_turn_32 : decode cL_turn 32 = .ok (.ireturn, 1) := by decide +kernel
theorem dL_move_0 : decode cL_move 0 = .ok (.aload 4, 2) := by decide +kernel
theorem dL_move_2 : decode cL_move 2 = .ok (.iconst 0, 1) := by decide +kernel
theorem dL_move_3 : decode cL_move 3 = .ok (.aload_n 0, 1) := by decide +kernel
theorem dL_move_4 : decode cL_move 4 = .ok (.iload_n 1, 1) := by decide +kernel
theorem dL_move_5 : decode cL_move 5 = .ok (.iload_n 2, 1) := by decide +kernel
theorem dL_move_6 : decode cL_move 6 = .ok (.iload_n 3, 1) := by decide +kernel
theorem dL_move_7 : decode cL_move 7 = .ok (.invokevirtual 49, 3) := by decide +kernel
theorem dL_move_10 : decode cL_move 10 = .ok (.i2l, 1) := by decide +kernel
theorem dL_move_11 : decode cL_move 11 = .ok (.lastore, 1) := by decide +kernel
theorem dL_move_12 : decode cL_move 12 = .ok (.goto 19, 3) := by decide +kernel
theorem dL_move_15 : decode cL_move 15 = .ok (.astore 5, 2) := by decide +kernel
theorem dL_move_17 : decode cL_move 17 = .ok (.iconst 1, 1) := by decide +kernel
theorem dL_move_18 : decode cL_move 18 = .ok (.ireturn, 1) := by decide +kernel
theorem dL_move_19 : decode cL_move 19 = .ok (.astore 5, 2) := by decide +kernel
theorem dL_move_21 : decode cL_move 21 = .ok (.iconst 2, 1) := by decide +kernel
theorem dL_move_22 : decode cL_move 22 = .ok (.ireturn, 1) := by decide +kernel
theorem dL_move_23 : decode cL_move 23 = .ok (.astore 5, 2) := by decide +kernel
theorem dL_move_25 : decode cL_move 25 = .ok (.iconst 3, 1) := by decide +kernel
theorem dL_move_26 : decode cL_move 26 = .ok (.ireturn, 1) := by decide +kernel
theorem dL_move_27 : decode cL_move 27 = .ok (.astore 5, 2) := by decide +kernel
theorem dL_move_29 : decode cL_move 29 = .ok (.iconst 4, 1) := by decide +kernel
theorem dL_move_30 : decode cL_move 30 = .ok (.ireturn, 1) := by decide +kernel
theorem dL_move_31 : decode cL_move 31 = .ok (.iconst 0, 1) := by decide +kernel
theorem dL_move_32 : decode cL_move 32 = .ok (.ireturn, 1) := by decide +kernel
theorem dL_setScale_0 : decode cL_setScale 0 = .ok (.aload 5, 2) := by decide +kernel
theorem dL_setScale_2 : decode cL_setScale 2 = .ok (.iconst 0, 1) := by decide +kernel
theorem dL_setScale_3 : decode cL_setScale 3 = .ok (.aload_n 0, 1) := by decide +kernel
theorem dL_setScale_4 : decode cL_setScale 4 = .ok (.iload_n 1, 1) := by decide +kernel
theorem dL_setScale_5 : decode cL_setScale 5 = .ok (.iload_n 2, 1) := by decide +kernel
theorem dL_setScale_6 : decode cL_setScale 6 = .ok (.iload_n 3, 1) := by decide +kernel
theorem dL_setScale_7 : decode cL_setScale 7 = .ok (.iload 4, 2) := by decide +kernel
theorem dL_setScale_9 : decode cL_setScale 9 = .ok (.invokevirtual 53, 3) := by decide +kernel
theorem dL_setScale_12 : decode cL_setScale 12 = .ok (.i2l, 1) := by decide +kernel
theorem dL_setScale_13 : decode cL_setScale 13 = .ok (.lastore, 1) := by decide +kernel
theorem dL_setScale_14 : decode cL_setScale 14 = .ok (.goto 19, 3) := by decide +kernel
theorem dL_setScale_17 : decode cL_setScale 17 = .ok (.astore 6, 2) := by decide +kernel
theorem dL_setScale_19 : decode cL_setScale 19 = .ok (.iconst 1, 1) := by decide +kernel
theorem dL_setScale_20 : decode cL_setScale 20 = .ok (.ireturn, 1) := by decide +kernel
theorem dL_setScale_21 : decode cL_setScale 21 = .ok (.astore 6, 2) := by decide +kernel
theorem dL_setScale_23 : decode cL_setScale 23 = .ok (.iconst 2, 1) := by decide +kernel
theorem dL_setScale_24 : decode cL_setScale 24 = .ok (.ireturn, 1) := by decide +kernel
theorem dL_setScale_25 : decode cL_setScale 25 = .ok (.astore 6, 2) := by decide +kernel
theorem dL_setScale_27 : decode cL_setScale 27 = .ok (.iconst 3, 1) := by decide +kernel
theorem dL_setScale_28 : decode cL_setScale 28 = .ok (.ireturn, 1) := by decide +kernel
theorem dL_setScale_29 : decode cL_setScale 29 = .ok (.astore 6, 2) := by decide +kernel
theorem dL_setScale_31 : decode cL_setScale 31 = .ok (.iconst 4, 1) := by decide +kernel
theorem dL_setScale_32 : decode cL_setScale 32 = .ok (.ireturn, 1) := by decide +kernel
theorem dL_setScale_33 : decode cL_setScale 33 = .ok (.iconst 0, 1) := by decide +kernel
theorem dL_setScale_34 : decode cL_setScale 34 = .ok (.ireturn, 1) := by decide +kernel
theorem dL_round_0 : decode cL_round 0 = .ok (.aload 5, 2) := by decide +kernel
theorem dL_round_2 : decode cL_round 2 = .ok (.iconst 0, 1) := by decide +kernel
theorem dL_round_3 : decode cL_round 3 = .ok (.aload_n 0, 1) := by decide +kernel
theorem dL_round_4 : decode cL_round 4 = .ok (.iload_n 1, 1) := by decide +kernel
theorem dL_round_5 : decode cL_round 5 = .ok (.iload_n 2, 1) := by decide +kernel
theorem dL_round_6 : decode cL_round 6 = .ok (.iload_n 3, 1) := by decide +kernel
theorem dL_round_7 : decode cL_round 7 = .ok (.iload 4, 2) := by decide +kernel
theorem dL_round_9 : decode cL_round 9 = .ok (.invokevirtual 56, 3) := by decide +kernel
theorem dL_round_12 : decode cL_round 12 = .ok (.i2l, 1) := by decide +kernel
theorem dL_round_13 : decode cL_round 13 = .ok (.lastore, 1) := by decide +kernel
theorem dL_round_14 : decode cL_round 14 = .ok (.goto 19, 3) := by decide +kernel
theorem dL_round_17 : decode cL_round 17 = .ok (.astore 6, 2) := by decide +kernel
theorem dL_round_19 : decode cL_round 19 = .ok (.iconst 1, 1) := by decide +kernel
theorem dL_round_20 : decode cL_round 20 = .ok (.ireturn, 1) := by decide +kernel
theorem dL_round_21 : decode cL_round 21 = .ok (.astore 6, 2) := by decide +kernel
theorem dL_round_23 : decode cL_round 23 = .ok (.iconst 2, 1) := by decide +kernel
theorem dL_round_24 : decode cL_round 24 = .ok (.ireturn, 1) := by decide +kernel
theorem dL_round_25 : decode cL_round 25 = .ok (.astore 6, 2) := by decide +kernel
theorem dL_round_27 : decode cL_round 27 = .ok (.iconst 3, 1) := by decide +kernel
theorem dL_round_28 : decode cL_round 28 = .ok (.ireturn, 1) := by decide +kernel
theorem dL_round_29 : decode cL_round 29 = .ok (.astore 6, 2) := by decide +kernel
theorem dL_round_31 : decode cL_round 31 = .ok (.iconst 4, 1) := by decide +kernel
theorem dL_round_32 : decode cL_round 32 = .ok (.ireturn, 1) := by decide +kernel
theorem dL_round_33 : decode cL_round 33 = .ok (.iconst 0, 1) := by decide +kernel
theorem dL_round_34 : decode cL_round 34 = .ok (.ireturn, 1) := by decide +kernel
theorem dL_divide_0 : decode cL_divide 0 = .ok (.aload 6, 2) := by decide +kernel
theorem dL_divide_2 : decode cL_divide 2 = .ok (.iconst 0, 1) := by decide +kernel
theorem dL_divide_3 : decode cL_divide 3 = .ok (.aload_n 0, 1) := by decide +kernel
theorem dL_divide_4 : decode cL_divide 4 = .ok (.iload_n 1, 1) := by decide +kernel
theorem dL_divide_5 : decode cL_divide 5 = .ok (.iload_n 2, 1) := by decide +kernel
theorem dL_divide_6 : decode cL_divide 6 = .ok (.iload_n 3, 1) := by decide +kernel
theorem dL_divide_7 : decode cL_divide 7 = .ok (.iload 4, 2) := by decide +kernel
theorem dL_divide_9 : decode cL_divide 9 = .ok (.iload 5, 2) := by decide +kernel
theorem dL_divide_11 : decode cL_divide 11 = .ok (.invokevirtual 59, 3) := by decide +kernel
theorem dL_divide_14 : decode cL_divide 14 = .ok (.i2l, 1) := by decide +kernel
theorem dL_divide_15 : decode cL_divide 15 = .ok (.lastore, 1) := by decide +kernel
theorem dL_divide_16 : decode cL_divide 16 = .ok (.goto 19, 3) := by decide +kernel
theorem dL_divide_19 : decode cL_divide 19 = .ok (.astore 7, 2) := by decide +kernel
theorem dL_divide_21 : decode cL_divide 21 = .ok (.iconst 1, 1) := by decide +kernel
theorem dL_divide_22 : decode cL_divide 22 = .ok (.ireturn, 1) := by decide +kernel
theorem dL_divide_23 : decode cL_divide 23 = .ok (.astore 7, 2) := by decide +kernel
theorem dL_divide_25 : decode cL_divide 25 = .ok (.iconst 2, 1) := by decide +kernel
theorem dL_divide_26 : decode cL_divide 26 = .ok (.ireturn, 1) := by decide +kernel
theorem dL_divide_27 : decode cL_divide 27 = .ok (.astore 7, 2) := by decide +kernel
theorem dL_divide_29 : decode cL_divide 29 = .ok (.iconst 3, 1) := by decide +kernel
theorem dL_divide_30 : decode cL_divide 30 = .ok (.ireturn, 1) := by decide +kernel
theorem dL_divide_31 : decode cL_divide 31 = .ok (.astore 7, 2) := by decide +kernel
theorem dL_divide_33 : decode cL_divide 33 = .ok (.iconst 4, 1) := by decide +kernel
theorem dL_divide_34 : decode cL_divide 34 = .ok (.ireturn, 1) := by decide +kernel
theorem dL_divide_35 : decode cL_divide 35 = .ok (.iconst 0, 1) := by decide +kernel
theorem dL_divide_36 : decode cL_divide 36 = .ok (.ireturn, 1) := by decide +kernel
theorem dL_divideExactly_0 : decode cL_divideExactly 0 = .ok (.aload 4, 2) := by decide +kernel
theorem dL_divideExactly_2 : decode cL_divideExactly 2 = .ok (.iconst 0, 1) := by decide +kernel
theorem dL_divideExactly_3 : decode cL_divideExactly 3 = .ok (.aload_n 0, 1) := by decide +kernel
theorem dL_divideExactly_4 : decode cL_divideExactly 4 = .ok (.iload_n 1, 1) := by decide +kernel
theorem dL_divideExactly_5 : decode cL_divideExactly 5 = .ok (.iload_n 2, 1) := by decide +kernel
theorem dL_divideExactly_6 : decode cL_divideExactly 6 = .ok (.iload_n 3, 1) := by decide +kernel
theorem dL_divideExactly_7 : decode cL_divideExactly 7 = .ok (.invokevirtual 63, 3) := by decide +kernel
theorem dL_divideExactly_10 : decode cL_divideExactly 10 = .ok (.i2l, 1) := by decide +kernel
theorem dL_divideExactly_11 : decode cL_divideExactly 11 = .ok (.lastore, 1) := by decide +kernel
theorem dL_divideExactly_12 : decode cL_divideExactly 12 = .ok (.goto 15, 3) := by decide +kernel
theorem dL_divideExactly_15 : decode cL_divideExactly 15 = .ok (.astore 5, 2) := by decide +kernel
theorem dL_divideExactly_17 : decode cL_divideExactly 17 = .ok (.iconst 1, 1) := by decide +kernel
theorem dL_divideExactly_18 : decode cL_divideExactly 18 = .ok (.ireturn, 1) := by decide +kernel
theorem dL_divideExactly_19 : decode cL_divideExactly 19 = .ok (.astore 5, 2) := by decide +kernel
theorem dL_divideExactly_21 : decode cL_divideExactly 21 = .ok (.iconst 2, 1) := by decide +kernel
theorem dL_divideExactly_22 : decode cL_divideExactly 22 = .ok (.ireturn, 1) := by decide +kernel
theorem dL_divideExactly_23 : decode cL_divideExactly 23 = .ok (.astore 5, 2) := by decide +kernel
theorem dL_divideExactly_25 : decode cL_divideExactly 25 = .ok (.iconst 3, 1) := by decide +kernel
theorem dL_divideExactly_26 : decode cL_divideExactly 26 = .ok (.ireturn, 1) := by decide +kernel
theorem dL_divideExactly_27 : decode cL_divideExactly 27 = .ok (.iconst 0, 1) := by decide +kernel
theorem dL_divideExactly_28 : decode cL_divideExactly 28 = .ok (.ireturn, 1) := by decide +kernel
theorem dL_compare_0 : decode cL_compare 0 = .ok (.aload_n 3, 1) := by decide +kernel
theorem dL_compare_1 : decode cL_compare 1 = .ok (.iconst 0, 1) := by decide +kernel
theorem dL_compare_2 : decode cL_compare 2 = .ok (.aload_n 0, 1) := by decide +kernel
theorem dL_compare_3 : decode cL_compare 3 = .ok (.iload_n 1, 1) := by decide +kernel
theorem dL_compare_4 : decode cL_compare 4 = .ok (.iload_n 2, 1) := by decide +kernel
theorem dL_compare_5 : decode cL_compare 5 = .ok (.invokevirtual 66, 3) := by decide +kernel
theorem dL_compare_8 : decode cL_compare 8 = .ok (.i2l, 1) := by decide +kernel
theorem dL_compare_9 : decode cL_compare 9 = .ok (.lastore, 1) := by decide +kernel
theorem dL_compare_10 : decode cL_compare 10 = .ok (.goto 11, 3) := by decide +kernel
theorem dL_compare_13 : decode cL_compare 13 = .ok (.astore 4, 2) := by decide +kernel
theorem dL_compare_15 : decode cL_compare 15 = .ok (.iconst 1, 1) := by decide +kernel
theorem dL_compare_16 : decode cL_compare 16 = .ok (.ireturn, 1) := by decide +kernel
theorem dL_compare_17 : decode cL_compare 17 = .ok (.astore 4, 2) := by decide +kernel
theorem dL_compare_19 : decode cL_compare 19 = .ok (.iconst 2, 1) := by decide +kernel
theorem dL_compare_20 : decode cL_compare 20 = .ok (.ireturn, 1) := by decide +kernel
theorem dL_compare_21 : decode cL_compare 21 = .ok (.iconst 0, 1) := by decide +kernel
theorem dL_compare_22 : decode cL_compare 22 = .ok (.ireturn, 1) := by decide +kernel
theorem dL_isEqual_0 : decode cL_isEqual 0 = .ok (.aload_n 3, 1) := by decide +kernel
theorem dL_isEqual_1 : decode cL_isEqual 1 = .ok (.iconst 0, 1) := by decide +kernel
theorem dL_isEqual_2 : decode cL_isEqual 2 = .ok (.aload_n 0, 1) := by decide +kernel
theorem dL_isEqual_3 : decode cL_isEqual 3 = .ok (.iload_n 1, 1) := by decide +kernel
theorem dL_isEqual_4 : decode cL_isEqual 4 = .ok (.iload_n 2, 1) := by decide +kernel
theorem dL_isEqual_5 : decode cL_isEqual 5 = .ok (.invokevirtual 70, 3) := by decide +kernel
theorem dL_isEqual_8 : decode cL_isEqual 8 = .ok (.ifCond .eq 7, 3) := by decide +kernel
theorem dL_isEqual_11 : decode cL_isEqual 11 = .ok (.lconst 1, 1) := by decide +kernel
theorem dL_isEqual_12 : decode cL_isEqual 12 = .ok (.goto 4, 3) := by decide +kernel
theorem dL_isEqual_15 : decode cL_isEqual 15 = .ok (.lconst 0, 1) := by decide +kernel
theorem dL_isEqual_16 : decode cL_isEqual 16 = .ok (.lastore, 1) := by decide +kernel
theorem dL_isEqual_17 : decode cL_isEqual 17 = .ok (.goto 11, 3) := by decide +kernel
theorem dL_isEqual_20 : decode cL_isEqual 20 = .ok (.astore 4, 2) := by decide +kernel
theorem dL_isEqual_22 : decode cL_isEqual 22 = .ok (.iconst 1, 1) := by decide +kernel
theorem dL_isEqual_23 : decode cL_isEqual 23 = .ok (.ireturn, 1) := by decide +kernel
theorem dL_isEqual_24 : decode cL_isEqual 24 = .ok (.astore 4, 2) := by decide +kernel
theorem dL_isEqual_26 : decode cL_isEqual 26 = .ok (.iconst 2, 1) := by decide +kernel
theorem dL_isEqual_27 : decode cL_isEqual 27 = .ok (.ireturn, 1) := by decide +kernel
theorem dL_isEqual_28 : decode cL_isEqual 28 = .ok (.iconst 0, 1) := by decide +kernel
theorem dL_isEqual_29 : decode cL_isEqual 29 = .ok (.ireturn, 1) := by decide +kernel
theorem dL_setCurrency_0 : decode cL_setCurrency 0 = .ok (.aload 5, 2) := by decide +kernel
theorem dL_setCurrency_2 : decode cL_setCurrency 2 = .ok (.iconst 0, 1) := by decide +kernel
theorem dL_setCurrency_3 : decode cL_setCurrency 3 = .ok (.aload_n 0, 1) := by decide +kernel
theorem dL_setCurrency_4 : decode cL_setCurrency 4 = .ok (.iload_n 1, 1) := by decide +kernel
theorem dL_setCurrency_5 : decode cL_setCurrency 5 = .ok (.iload_n 2, 1) := by decide +kernel
theorem dL_setCurrency_6 : decode cL_setCurrency 6 = .ok (.iload_n 3, 1) := by decide +kernel
theorem dL_setCurrency_7 : decode cL_setCurrency 7 = .ok (.iload 4, 2) := by decide +kernel
theorem dL_setCurrency_9 : decode cL_setCurrency 9 = .ok (.invokevirtual 74, 3) := by decide +kernel
theorem dL_setCurrency_12 : decode cL_setCurrency 12 = .ok (.i2l, 1) := by decide +kernel
theorem dL_setCurrency_13 : decode cL_setCurrency 13 = .ok (.lastore, 1) := by decide +kernel
theorem dL_setCurrency_14 : decode cL_setCurrency 14 = .ok (.goto 11, 3) := by decide +kernel
theorem dL_setCurrency_17 : decode cL_setCurrency 17 = .ok (.astore 6, 2) := by decide +kernel
theorem dL_setCurrency_19 : decode cL_setCurrency 19 = .ok (.iconst 1, 1) := by decide +kernel
theorem dL_setCurrency_20 : decode cL_setCurrency 20 = .ok (.ireturn, 1) := by decide +kernel
theorem dL_setCurrency_21 : decode cL_setCurrency 21 = .ok (.astore 6, 2) := by decide +kernel
theorem dL_setCurrency_23 : decode cL_setCurrency 23 = .ok (.iconst 2, 1) := by decide +kernel
theorem dL_setCurrency_24 : decode cL_setCurrency 24 = .ok (.ireturn, 1) := by decide +kernel
theorem dL_setCurrency_25 : decode cL_setCurrency 25 = .ok (.iconst 0, 1) := by decide +kernel
theorem dL_setCurrency_26 : decode cL_setCurrency 26 = .ok (.ireturn, 1) := by decide +kernel
theorem dL_setRate_0 : decode cL_setRate 0 = .ok (.aload 4, 2) := by decide +kernel
theorem dL_setRate_2 : decode cL_setRate 2 = .ok (.iconst 0, 1) := by decide +kernel
theorem dL_setRate_3 : decode cL_setRate 3 = .ok (.aload_n 0, 1) := by decide +kernel
theorem dL_setRate_4 : decode cL_setRate 4 = .ok (.iload_n 1, 1) := by decide +kernel
theorem dL_setRate_5 : decode cL_setRate 5 = .ok (.iload_n 2, 1) := by decide +kernel
theorem dL_setRate_6 : decode cL_setRate 6 = .ok (.iload_n 3, 1) := by decide +kernel
theorem dL_setRate_7 : decode cL_setRate 7 = .ok (.invokevirtual 77, 3) := by decide +kernel
theorem dL_setRate_10 : decode cL_setRate 10 = .ok (.ifCond .eq 7, 3) := by decide +kernel
theorem dL_setRate_13 : decode cL_setRate 13 = .ok (.lconst 1, 1) := by decide +kernel
theorem dL_setRate_14 : decode cL_setRate 14 = .ok (.goto 4, 3) := by decide +kernel
theorem dL_setRate_17 : decode cL_setRate 17 = .ok (.lconst 0, 1) := by decide +kernel
theorem dL_setRate_18 : decode cL_setRate 18 = .ok (.lastore, 1) := by decide +kernel
theorem dL_setRate_19 : decode cL_setRate 19 = .ok (.goto 19, 3) := by decide +kernel
theorem dL_setRate_22 : decode cL_setRate 22 = .ok (.astore 5, 2) := by decide +kernel
theorem dL_setRate_24 : decode cL_setRate 24 = .ok (.iconst 1, 1) := by decide +kernel
theorem dL_setRate_25 : decode cL_setRate 25 = .ok (.ireturn, 1) := by decide +kernel
theorem dL_setRate_26 : decode cL_setRate 26 = .ok (.astore 5, 2) := by decide +kernel
theorem dL_setRate_28 : decode cL_setRate 28 = .ok (.iconst 2, 1) := by decide +kernel
theorem dL_setRate_29 : decode cL_setRate 29 = .ok (.ireturn, 1) := by decide +kernel
theorem dL_setRate_30 : decode cL_setRate 30 = .ok (.astore 5, 2) := by decide +kernel
theorem dL_setRate_32 : decode cL_setRate 32 = .ok (.iconst 3, 1) := by decide +kernel
theorem dL_setRate_33 : decode cL_setRate 33 = .ok (.ireturn, 1) := by decide +kernel
theorem dL_setRate_34 : decode cL_setRate 34 = .ok (.astore 5, 2) := by decide +kernel
theorem dL_setRate_36 : decode cL_setRate 36 = .ok (.iconst 4, 1) := by decide +kernel
theorem dL_setRate_37 : decode cL_setRate 37 = .ok (.ireturn, 1) := by decide +kernel
theorem dL_setRate_38 : decode cL_setRate 38 = .ok (.iconst 0, 1) := by decide +kernel
theorem dL_setRate_39 : decode cL_setRate 39 = .ok (.ireturn, 1) := by decide +kernel
theorem dL_change_0 : decode cL_change 0 = .ok (.aload 5, 2) := by decide +kernel
theorem dL_change_2 : decode cL_change 2 = .ok (.iconst 0, 1) := by decide +kernel
theorem dL_change_3 : decode cL_change 3 = .ok (.aload_n 0, 1) := by decide +kernel
theorem dL_change_4 : decode cL_change 4 = .ok (.iload_n 1, 1) := by decide +kernel
theorem dL_change_5 : decode cL_change 5 = .ok (.iload_n 2, 1) := by decide +kernel
theorem dL_change_6 : decode cL_change 6 = .ok (.lload_n 3, 1) := by decide +kernel
theorem dL_change_7 : decode cL_change 7 = .ok (.invokevirtual 81, 3) := by decide +kernel
theorem dL_change_10 : decode cL_change 10 = .ok (.lastore, 1) := by decide +kernel
theorem dL_change_11 : decode cL_change 11 = .ok (.goto 19, 3) := by decide +kernel
theorem dL_change_14 : decode cL_change 14 = .ok (.astore 6, 2) := by decide +kernel
theorem dL_change_16 : decode cL_change 16 = .ok (.iconst 1, 1) := by decide +kernel
theorem dL_change_17 : decode cL_change 17 = .ok (.ireturn, 1) := by decide +kernel
theorem dL_change_18 : decode cL_change 18 = .ok (.astore 6, 2) := by decide +kernel
theorem dL_change_20 : decode cL_change 20 = .ok (.iconst 2, 1) := by decide +kernel
theorem dL_change_21 : decode cL_change 21 = .ok (.ireturn, 1) := by decide +kernel
theorem dL_change_22 : decode cL_change 22 = .ok (.astore 6, 2) := by decide +kernel
theorem dL_change_24 : decode cL_change 24 = .ok (.iconst 3, 1) := by decide +kernel
theorem dL_change_25 : decode cL_change 25 = .ok (.ireturn, 1) := by decide +kernel
theorem dL_change_26 : decode cL_change 26 = .ok (.astore 6, 2) := by decide +kernel
theorem dL_change_28 : decode cL_change 28 = .ok (.iconst 4, 1) := by decide +kernel
theorem dL_change_29 : decode cL_change 29 = .ok (.ireturn, 1) := by decide +kernel
theorem dL_change_30 : decode cL_change 30 = .ok (.iconst 0, 1) := by decide +kernel
theorem dL_change_31 : decode cL_change 31 = .ok (.ireturn, 1) := by decide +kernel
theorem dL_lost_0 : decode cL_lost 0 = .ok (.aload 5, 2) := by decide +kernel
theorem dL_lost_2 : decode cL_lost 2 = .ok (.iconst 0, 1) := by decide +kernel
theorem dL_lost_3 : decode cL_lost 3 = .ok (.aload_n 0, 1) := by decide +kernel
theorem dL_lost_4 : decode cL_lost 4 = .ok (.iload_n 1, 1) := by decide +kernel
theorem dL_lost_5 : decode cL_lost 5 = .ok (.iload_n 2, 1) := by decide +kernel
theorem dL_lost_6 : decode cL_lost 6 = .ok (.lload_n 3, 1) := by decide +kernel
theorem dL_lost_7 : decode cL_lost 7 = .ok (.invokevirtual 85, 3) := by decide +kernel
theorem dL_lost_10 : decode cL_lost 10 = .ok (.lastore, 1) := by decide +kernel
theorem dL_lost_11 : decode cL_lost 11 = .ok (.goto 19, 3) := by decide +kernel
theorem dL_lost_14 : decode cL_lost 14 = .ok (.astore 6, 2) := by decide +kernel
theorem dL_lost_16 : decode cL_lost 16 = .ok (.iconst 1, 1) := by decide +kernel
theorem dL_lost_17 : decode cL_lost 17 = .ok (.ireturn, 1) := by decide +kernel
theorem dL_lost_18 : decode cL_lost 18 = .ok (.astore 6, 2) := by decide +kernel
theorem dL_lost_20 : decode cL_lost 20 = .ok (.iconst 2, 1) := by decide +kernel
theorem dL_lost_21 : decode cL_lost 21 = .ok (.ireturn, 1) := by decide +kernel
theorem dL_lost_22 : decode cL_lost 22 = .ok (.astore 6, 2) := by decide +kernel
theorem dL_lost_24 : decode cL_lost 24 = .ok (.iconst 3, 1) := by decide +kernel
theorem dL_lost_25 : decode cL_lost 25 = .ok (.ireturn, 1) := by decide +kernel
theorem dL_lost_26 : decode cL_lost 26 = .ok (.astore 6, 2) := by decide +kernel
theorem dL_lost_28 : decode cL_lost 28 = .ok (.iconst 4, 1) := by decide +kernel
theorem dL_lost_29 : decode cL_lost 29 = .ok (.ireturn, 1) := by decide +kernel
theorem dL_lost_30 : decode cL_lost 30 = .ok (.iconst 0, 1) := by decide +kernel
theorem dL_lost_31 : decode cL_lost 31 = .ok (.ireturn, 1) := by decide +kernel
theorem dL_setTax_0 : decode cL_setTax 0 = .ok (.aload 4, 2) := by decide +kernel
theorem dL_setTax_2 : decode cL_setTax 2 = .ok (.iconst 0, 1) := by decide +kernel
theorem dL_setTax_3 : decode cL_setTax 3 = .ok (.aload_n 0, 1) := by decide +kernel
theorem dL_setTax_4 : decode cL_setTax 4 = .ok (.iload_n 1, 1) := by decide +kernel
theorem dL_setTax_5 : decode cL_setTax 5 = .ok (.iload_n 2, 1) := by decide +kernel
theorem dL_setTax_6 : decode cL_setTax 6 = .ok (.iload_n 3, 1) := by decide +kernel
theorem dL_setTax_7 : decode cL_setTax 7 = .ok (.invokevirtual 88, 3) := by decide +kernel
theorem dL_setTax_10 : decode cL_setTax 10 = .ok (.i2l, 1) := by decide +kernel
theorem dL_setTax_11 : decode cL_setTax 11 = .ok (.lastore, 1) := by decide +kernel
theorem dL_setTax_12 : decode cL_setTax 12 = .ok (.goto 11, 3) := by decide +kernel
theorem dL_setTax_15 : decode cL_setTax 15 = .ok (.astore 5, 2) := by decide +kernel
theorem dL_setTax_17 : decode cL_setTax 17 = .ok (.iconst 1, 1) := by decide +kernel
theorem dL_setTax_18 : decode cL_setTax 18 = .ok (.ireturn, 1) := by decide +kernel
theorem dL_setTax_19 : decode cL_setTax 19 = .ok (.astore 5, 2) := by decide +kernel
theorem dL_setTax_21 : decode cL_setTax 21 = .ok (.iconst 2, 1) := by decide +kernel
theorem dL_setTax_22 : decode cL_setTax 22 = .ok (.ireturn, 1) := by decide +kernel
theorem dL_setTax_23 : decode cL_setTax 23 = .ok (.iconst 0, 1) := by decide +kernel
theorem dL_setTax_24 : decode cL_setTax 24 = .ok (.ireturn, 1) := by decide +kernel
theorem dL_tax_0 : decode cL_tax 0 = .ok (.aload_n 3, 1) := by decide +kernel
theorem dL_tax_1 : decode cL_tax 1 = .ok (.iconst 0, 1) := by decide +kernel
theorem dL_tax_2 : decode cL_tax 2 = .ok (.aload_n 0, 1) := by decide +kernel
theorem dL_tax_3 : decode cL_tax 3 = .ok (.iload_n 1, 1) := by decide +kernel
theorem dL_tax_4 : decode cL_tax 4 = .ok (.iload_n 2, 1) := by decide +kernel
theorem dL_tax_5 : decode cL_tax 5 = .ok (.invokevirtual 91, 3) := by decide +kernel
theorem dL_tax_8 : decode cL_tax 8 = .ok (.i2l, 1) := by decide +kernel
theorem dL_tax_9 : decode cL_tax 9 = .ok (.lastore, 1) := by decide +kernel
theorem dL_tax_10 : decode cL_tax 10 = .ok (.goto 11, 3) := by decide +kernel
theorem dL_tax_13 : decode cL_tax 13 = .ok (.astore 4, 2) := by decide +kernel
theorem dL_tax_15 : decode cL_tax 15 = .ok (.iconst 1, 1) := by decide +kernel
theorem dL_tax_16 : decode cL_tax 16 = .ok (.ireturn, 1) := by decide +kernel
theorem dL_tax_17 : decode cL_tax 17 = .ok (.astore 4, 2) := by decide +kernel
theorem dL_tax_19 : decode cL_tax 19 = .ok (.iconst 2, 1) := by decide +kernel
theorem dL_tax_20 : decode cL_tax 20 = .ok (.ireturn, 1) := by decide +kernel
theorem dL_tax_21 : decode cL_tax 21 = .ok (.iconst 0, 1) := by decide +kernel
theorem dL_tax_22 : decode cL_tax 22 = .ok (.ireturn, 1) := by decide +kernel
theorem dL_setDiscount_0 : decode cL_setDiscount 0 = .ok (.aload 4, 2) := by decide +kernel
theorem dL_setDiscount_2 : decode cL_setDiscount 2 = .ok (.iconst 0, 1) := by decide +kernel
theorem dL_setDiscount_3 : decode cL_setDiscount 3 = .ok (.aload_n 0, 1) := by decide +kernel
theorem dL_setDiscount_4 : decode cL_setDiscount 4 = .ok (.iload_n 1, 1) := by decide +kernel
theorem dL_setDiscount_5 : decode cL_setDiscount 5 = .ok (.iload_n 2, 1) := by decide +kernel
theorem dL_setDiscount_6 : decode cL_setDiscount 6 = .ok (.iload_n 3, 1) := by decide +kernel
theorem dL_setDiscount_7 : decode cL_setDiscount 7 = .ok (.invokevirtual 94, 3) := by decide +kernel
theorem dL_setDiscount_10 : decode cL_setDiscount 10 = .ok (.i2l, 1) := by decide +kernel
theorem dL_setDiscount_11 : decode cL_setDiscount 11 = .ok (.lastore, 1) := by decide +kernel
theorem dL_setDiscount_12 : decode cL_setDiscount 12 = .ok (.goto 11, 3) := by decide +kernel
theorem dL_setDiscount_15 : decode cL_setDiscount 15 = .ok (.astore 5, 2) := by decide +kernel
theorem dL_setDiscount_17 : decode cL_setDiscount 17 = .ok (.iconst 1, 1) := by decide +kernel
theorem dL_setDiscount_18 : decode cL_setDiscount 18 = .ok (.ireturn, 1) := by decide +kernel
theorem dL_setDiscount_19 : decode cL_setDiscount 19 = .ok (.astore 5, 2) := by decide +kernel
theorem dL_setDiscount_21 : decode cL_setDiscount 21 = .ok (.iconst 2, 1) := by decide +kernel
theorem dL_setDiscount_22 : decode cL_setDiscount 22 = .ok (.ireturn, 1) := by decide +kernel
theorem dL_setDiscount_23 : decode cL_setDiscount 23 = .ok (.iconst 0, 1) := by decide +kernel
theorem dL_setDiscount_24 : decode cL_setDiscount 24 = .ok (.ireturn, 1) := by decide +kernel
theorem dL_open_0 : decode cL_open 0 = .ok (.aload 4, 2) := by decide +kernel
theorem dL_open_2 : decode cL_open 2 = .ok (.iconst 0, 1) := by decide +kernel
theorem dL_open_3 : decode cL_open 3 = .ok (.aload_n 0, 1) := by decide +kernel
theorem dL_open_4 : decode cL_open 4 = .ok (.iload_n 1, 1) := by decide +kernel
theorem dL_open_5 : decode cL_open 5 = .ok (.iload_n 2, 1) := by decide +kernel
theorem dL_open_6 : decode cL_open 6 = .ok (.iload_n 3, 1) := by decide +kernel
theorem dL_open_7 : decode cL_open 7 = .ok (.invokevirtual 97, 3) := by decide +kernel
theorem dL_open_10 : decode cL_open 10 = .ok (.i2l, 1) := by decide +kernel
theorem dL_open_11 : decode cL_open 11 = .ok (.lastore, 1) := by decide +kernel
theorem dL_open_12 : decode cL_open 12 = .ok (.goto 15, 3) := by decide +kernel
theorem dL_open_15 : decode cL_open 15 = .ok (.astore 5, 2) := by decide +kernel
theorem dL_open_17 : decode cL_open 17 = .ok (.iconst 1, 1) := by decide +kernel
theorem dL_open_18 : decode cL_open 18 = .ok (.ireturn, 1) := by decide +kernel
theorem dL_open_19 : decode cL_open 19 = .ok (.astore 5, 2) := by decide +kernel
theorem dL_open_21 : decode cL_open 21 = .ok (.iconst 2, 1) := by decide +kernel
theorem dL_open_22 : decode cL_open 22 = .ok (.ireturn, 1) := by decide +kernel
theorem dL_open_23 : decode cL_open 23 = .ok (.astore 5, 2) := by decide +kernel
theorem dL_open_25 : decode cL_open 25 = .ok (.iconst 3, 1) := by decide +kernel
theorem dL_open_26 : decode cL_open 26 = .ok (.ireturn, 1) := by decide +kernel
theorem dL_open_27 : decode cL_open 27 = .ok (.iconst 0, 1) := by decide +kernel
theorem dL_open_28 : decode cL_open 28 = .ok (.ireturn, 1) := by decide +kernel
theorem dL_line_0 : decode cL_line 0 = .ok (.aload 5, 2) := by decide +kernel
theorem dL_line_2 : decode cL_line 2 = .ok (.iconst 0, 1) := by decide +kernel
theorem dL_line_3 : decode cL_line 3 = .ok (.aload_n 0, 1) := by decide +kernel
theorem dL_line_4 : decode cL_line 4 = .ok (.iload_n 1, 1) := by decide +kernel
theorem dL_line_5 : decode cL_line 5 = .ok (.iload_n 2, 1) := by decide +kernel
theorem dL_line_6 : decode cL_line 6 = .ok (.iload_n 3, 1) := by decide +kernel
theorem dL_line_7 : decode cL_line 7 = .ok (.iload 4, 2) := by decide +kernel
theorem dL_line_9 : decode cL_line 9 = .ok (.invokevirtual 101, 3) := by decide +kernel
theorem dL_line_12 : decode cL_line 12 = .ok (.i2l, 1) := by decide +kernel
theorem dL_line_13 : decode cL_line 13 = .ok (.lastore, 1) := by decide +kernel
theorem dL_line_14 : decode cL_line 14 = .ok (.goto 19, 3) := by decide +kernel
theorem dL_line_17 : decode cL_line 17 = .ok (.astore 6, 2) := by decide +kernel
theorem dL_line_19 : decode cL_line 19 = .ok (.iconst 1, 1) := by decide +kernel
theorem dL_line_20 : decode cL_line 20 = .ok (.ireturn, 1) := by decide +kernel
theorem dL_line_21 : decode cL_line 21 = .ok (.astore 6, 2) := by decide +kernel
theorem dL_line_23 : decode cL_line 23 = .ok (.iconst 2, 1) := by decide +kernel
theorem dL_line_24 : decode cL_line 24 = .ok (.ireturn, 1) := by decide +kernel
theorem dL_line_25 : decode cL_line 25 = .ok (.astore 6, 2) := by decide +kernel
theorem dL_line_27 : decode cL_line 27 = .ok (.iconst 3, 1) := by decide +kernel
theorem dL_line_28 : decode cL_line 28 = .ok (.ireturn, 1) := by decide +kernel
theorem dL_line_29 : decode cL_line 29 = .ok (.astore 6, 2) := by decide +kernel
theorem dL_line_31 : decode cL_line 31 = .ok (.iconst 4, 1) := by decide +kernel
theorem dL_line_32 : decode cL_line 32 = .ok (.ireturn, 1) := by decide +kernel
theorem dL_line_33 : decode cL_line 33 = .ok (.iconst 0, 1) := by decide +kernel
theorem dL_line_34 : decode cL_line 34 = .ok (.ireturn, 1) := by decide +kernel
theorem dL_netOfLine_0 : decode cL_netOfLine 0 = .ok (.aload_n 3, 1) := by decide +kernel
theorem dL_netOfLine_1 : decode cL_netOfLine 1 = .ok (.iconst 0, 1) := by decide +kernel
theorem dL_netOfLine_2 : decode cL_netOfLine 2 = .ok (.aload_n 0, 1) := by decide +kernel
theorem dL_netOfLine_3 : decode cL_netOfLine 3 = .ok (.iload_n 1, 1) := by decide +kernel
theorem dL_netOfLine_4 : decode cL_netOfLine 4 = .ok (.iload_n 2, 1) := by decide +kernel
theorem dL_netOfLine_5 : decode cL_netOfLine 5 = .ok (.invokevirtual 107, 3) := by decide +kernel
theorem dL_netOfLine_8 : decode cL_netOfLine 8 = .ok (.lastore, 1) := by decide +kernel
theorem dL_netOfLine_9 : decode cL_netOfLine 9 = .ok (.goto 11, 3) := by decide +kernel
theorem dL_netOfLine_12 : decode cL_netOfLine 12 = .ok (.astore 4, 2) := by decide +kernel
theorem dL_netOfLine_14 : decode cL_netOfLine 14 = .ok (.iconst 1, 1) := by decide +kernel
theorem dL_netOfLine_15 : decode cL_netOfLine 15 = .ok (.ireturn, 1) := by decide +kernel
theorem dL_netOfLine_16 : decode cL_netOfLine 16 = .ok (.astore 4, 2) := by decide +kernel
theorem dL_netOfLine_18 : decode cL_netOfLine 18 = .ok (.iconst 2, 1) := by decide +kernel
theorem dL_netOfLine_19 : decode cL_netOfLine 19 = .ok (.ireturn, 1) := by decide +kernel
theorem dL_netOfLine_20 : decode cL_netOfLine 20 = .ok (.iconst 0, 1) := by decide +kernel
theorem dL_netOfLine_21 : decode cL_netOfLine 21 = .ok (.ireturn, 1) := by decide +kernel
theorem dL_net_0 : decode cL_net 0 = .ok (.aload_n 2, 1) := by decide +kernel
theorem dL_net_1 : decode cL_net 1 = .ok (.iconst 0, 1) := by decide +kernel
theorem dL_net_2 : decode cL_net 2 = .ok (.aload_n 0, 1) := by decide +kernel
theorem dL_net_3 : decode cL_net 3 = .ok (.iload_n 1, 1) := by decide +kernel
theorem dL_net_4 : decode cL_net 4 = .ok (.invokevirtual 111, 3) := by decide +kernel
theorem dL_net_7 : decode cL_net 7 = .ok (.lastore, 1) := by decide +kernel
theorem dL_net_8 : decode cL_net 8 = .ok (.goto 9, 3) := by decide +kernel
theorem dL_net_11 : decode cL_net 11 = .ok (.astore_n 3, 1) := by decide +kernel
theorem dL_net_12 : decode cL_net 12 = .ok (.iconst 1, 1) := by decide +kernel
theorem dL_net_13 : decode cL_net 13 = .ok (.ireturn, 1) := by decide +kernel
theorem dL_net_14 : decode cL_net 14 = .ok (.astore_n 3, 1) := by decide +kernel
theorem dL_net_15 : decode cL_net 15 = .ok (.iconst 2, 1) := by decide +kernel
theorem dL_net_16 : decode cL_net 16 = .ok (.ireturn, 1) := by decide +kernel
theorem dL_net_17 : decode cL_net 17 = .ok (.iconst 0, 1) := by decide +kernel
theorem dL_net_18 : decode cL_net 18 = .ok (.ireturn, 1) := by decide +kernel
theorem dL_taxOf_0 : decode cL_taxOf 0 = .ok (.aload_n 2, 1) := by decide +kernel
theorem dL_taxOf_1 : decode cL_taxOf 1 = .ok (.iconst 0, 1) := by decide +kernel
theorem dL_taxOf_2 : decode cL_taxOf 2 = .ok (.aload_n 0, 1) := by decide +kernel
theorem dL_taxOf_3 : decode cL_taxOf 3 = .ok (.iload_n 1, 1) := by decide +kernel
theorem dL_taxOf_4 : decode cL_taxOf 4 = .ok (.invokevirtual 114, 3) := by decide +kernel
theorem dL_taxOf_7 : decode cL_taxOf 7 = .ok (.lastore, 1) := by decide +kernel
theorem dL_taxOf_8 : decode cL_taxOf 8 = .ok (.goto 9, 3) := by decide +kernel
theorem dL_taxOf_11 : decode cL_taxOf 11 = .ok (.astore_n 3, 1) := by decide +kernel
theorem dL_taxOf_12 : decode cL_taxOf 12 = .ok (.iconst 1, 1) := by decide +kernel
theorem dL_taxOf_13 : decode cL_taxOf 13 = .ok (.ireturn, 1) := by decide +kernel
theorem dL_taxOf_14 : decode cL_taxOf 14 = .ok (.astore_n 3, 1) := by decide +kernel
theorem dL_taxOf_15 : decode cL_taxOf 15 = .ok (.iconst 2, 1) := by decide +kernel
theorem dL_taxOf_16 : decode cL_taxOf 16 = .ok (.ireturn, 1) := by decide +kernel
theorem dL_taxOf_17 : decode cL_taxOf 17 = .ok (.iconst 0, 1) := by decide +kernel
theorem dL_taxOf_18 : decode cL_taxOf 18 = .ok (.ireturn, 1) := by decide +kernel
theorem dL_cash_0 : decode cL_cash 0 = .ok (.aload_n 2, 1) := by decide +kernel
theorem dL_cash_1 : decode cL_cash 1 = .ok (.iconst 0, 1) := by decide +kernel
theorem dL_cash_2 : decode cL_cash 2 = .ok (.aload_n 0, 1) := by decide +kernel
theorem dL_cash_3 : decode cL_cash 3 = .ok (.iload_n 1, 1) := by decide +kernel
theorem dL_cash_4 : decode cL_cash 4 = .ok (.invokevirtual 117, 3) := by decide +kernel
theorem dL_cash_7 : decode cL_cash 7 = .ok (.lastore, 1) := by decide +kernel
theorem dL_cash_8 : decode cL_cash 8 = .ok (.goto 9, 3) := by decide +kernel
theorem dL_cash_11 : decode cL_cash 11 = .ok (.astore_n 3, 1) := by decide +kernel
theorem dL_cash_12 : decode cL_cash 12 = .ok (.iconst 1, 1) := by decide +kernel
theorem dL_cash_13 : decode cL_cash 13 = .ok (.ireturn, 1) := by decide +kernel
theorem dL_cash_14 : decode cL_cash 14 = .ok (.astore_n 3, 1) := by decide +kernel
theorem dL_cash_15 : decode cL_cash 15 = .ok (.iconst 2, 1) := by decide +kernel
theorem dL_cash_16 : decode cL_cash 16 = .ok (.ireturn, 1) := by decide +kernel
theorem dL_cash_17 : decode cL_cash 17 = .ok (.iconst 0, 1) := by decide +kernel
theorem dL_cash_18 : decode cL_cash 18 = .ok (.ireturn, 1) := by decide +kernel
theorem dL_weigh_0 : decode cL_weigh 0 = .ok (.aload_n 2, 1) := by decide +kernel
theorem dL_weigh_1 : decode cL_weigh 1 = .ok (.iconst 0, 1) := by decide +kernel
theorem dL_weigh_2 : decode cL_weigh 2 = .ok (.aload_n 0, 1) := by decide +kernel
theorem dL_weigh_3 : decode cL_weigh 3 = .ok (.iload_n 1, 1) := by decide +kernel
theorem dL_weigh_4 : decode cL_weigh 4 = .ok (.invokevirtual 120, 3) := by decide +kernel
theorem dL_weigh_7 : decode cL_weigh 7 = .ok (.i2l, 1) := by decide +kernel
theorem dL_weigh_8 : decode cL_weigh 8 = .ok (.lastore, 1) := by decide +kernel
theorem dL_weigh_9 : decode cL_weigh 9 = .ok (.goto 9, 3) := by decide +kernel
theorem dL_weigh_12 : decode cL_weigh 12 = .ok (.astore_n 3, 1) := by decide +kernel
theorem dL_weigh_13 : decode cL_weigh 13 = .ok (.iconst 1, 1) := by decide +kernel
theorem dL_weigh_14 : decode cL_weigh 14 = .ok (.ireturn, 1) := by decide +kernel
theorem dL_weigh_15 : decode cL_weigh 15 = .ok (.astore_n 3, 1) := by decide +kernel
theorem dL_weigh_16 : decode cL_weigh 16 = .ok (.iconst 2, 1) := by decide +kernel
theorem dL_weigh_17 : decode cL_weigh 17 = .ok (.ireturn, 1) := by decide +kernel
theorem dL_weigh_18 : decode cL_weigh 18 = .ok (.iconst 0, 1) := by decide +kernel
theorem dL_weigh_19 : decode cL_weigh 19 = .ok (.ireturn, 1) := by decide +kernel
theorem dL_share_0 : decode cL_share 0 = .ok (.aload 4, 2) := by decide +kernel
theorem dL_share_2 : decode cL_share 2 = .ok (.iconst 0, 1) := by decide +kernel
theorem dL_share_3 : decode cL_share 3 = .ok (.aload_n 0, 1) := by decide +kernel
theorem dL_share_4 : decode cL_share 4 = .ok (.lload_n 1, 1) := by decide +kernel
theorem dL_share_5 : decode cL_share 5 = .ok (.iload_n 3, 1) := by decide +kernel
theorem dL_share_6 : decode cL_share 6 = .ok (.invokevirtual 123, 3) := by decide +kernel
theorem dL_share_9 : decode cL_share 9 = .ok (.i2l, 1) := by decide +kernel
theorem dL_share_10 : decode cL_share 10 = .ok (.lastore, 1) := by decide +kernel
theorem dL_share_11 : decode cL_share 11 = .ok (.goto 11, 3) := by decide +kernel
theorem dL_share_14 : decode cL_share 14 = .ok (.astore 5, 2) := by decide +kernel
theorem dL_share_16 : decode cL_share 16 = .ok (.iconst 1, 1) := by decide +kernel
theorem dL_share_17 : decode cL_share 17 = .ok (.ireturn, 1) := by decide +kernel
theorem dL_share_18 : decode cL_share 18 = .ok (.astore 5, 2) := by decide +kernel
theorem dL_share_20 : decode cL_share 20 = .ok (.iconst 2, 1) := by decide +kernel
theorem dL_share_21 : decode cL_share 21 = .ok (.ireturn, 1) := by decide +kernel
theorem dL_share_22 : decode cL_share 22 = .ok (.iconst 0, 1) := by decide +kernel
theorem dL_share_23 : decode cL_share 23 = .ok (.ireturn, 1) := by decide +kernel
theorem dL_part_0 : decode cL_part 0 = .ok (.aload_n 2, 1) := by decide +kernel
theorem dL_part_1 : decode cL_part 1 = .ok (.iconst 0, 1) := by decide +kernel
theorem dL_part_2 : decode cL_part 2 = .ok (.aload_n 0, 1) := by decide +kernel
theorem dL_part_3 : decode cL_part 3 = .ok (.iload_n 1, 1) := by decide +kernel
theorem dL_part_4 : decode cL_part 4 = .ok (.invokevirtual 127, 3) := by decide +kernel
theorem dL_part_7 : decode cL_part 7 = .ok (.lastore, 1) := by decide +kernel
theorem dL_part_8 : decode cL_part 8 = .ok (.goto 6, 3) := by decide +kernel
theorem dL_part_11 : decode cL_part 11 = .ok (.astore_n 3, 1) := by decide +kernel
theorem dL_part_12 : decode cL_part 12 = .ok (.iconst 1, 1) := by decide +kernel
theorem dL_part_13 : decode cL_part 13 = .ok (.ireturn, 1) := by decide +kernel
theorem dL_part_14 : decode cL_part 14 = .ok (.iconst 0, 1) := by decide +kernel
theorem dL_part_15 : decode cL_part 15 = .ok (.ireturn, 1) := by decide +kernel
theorem dL_interest_0 : decode cL_interest 0 = .ok (.aload 7, 2) := by decide +kernel
theorem dL_interest_2 : decode cL_interest 2 = .ok (.iconst 0, 1) := by decide +kernel
theorem dL_interest_3 : decode cL_interest 3 = .ok (.aload_n 0, 1) := by decide +kernel
theorem dL_interest_4 : decode cL_interest 4 = .ok (.lload_n 1, 1) := by decide +kernel
theorem dL_interest_5 : decode cL_interest 5 = .ok (.iload_n 3, 1) := by decide +kernel
theorem dL_interest_6 : decode cL_interest 6 = .ok (.iload 4, 2) := by decide +kernel
theorem dL_interest_8 : decode cL_interest 8 = .ok (.iload 5, 2) := by decide +kernel
theorem dL_interest_10 : decode cL_interest 10 = .ok (.iload 6, 2) := by decide +kernel
theorem dL_interest_12 : decode cL_interest 12 = .ok (.invokevirtual 130, 3) := by decide +kernel
theorem dL_interest_15 : decode cL_interest 15 = .ok (.lastore, 1) := by decide +kernel
theorem dL_interest_16 : decode cL_interest 16 = .ok (.goto 11, 3) := by decide +kernel
theorem dL_interest_19 : decode cL_interest 19 = .ok (.astore 8, 2) := by decide +kernel
theorem dL_interest_21 : decode cL_interest 21 = .ok (.iconst 1, 1) := by decide +kernel
theorem dL_interest_22 : decode cL_interest 22 = .ok (.ireturn, 1) := by decide +kernel
theorem dL_interest_23 : decode cL_interest 23 = .ok (.astore 8, 2) := by decide +kernel
theorem dL_interest_25 : decode cL_interest 25 = .ok (.iconst 2, 1) := by decide +kernel
theorem dL_interest_26 : decode cL_interest 26 = .ok (.ireturn, 1) := by decide +kernel
theorem dL_interest_27 : decode cL_interest 27 = .ok (.iconst 0, 1) := by decide +kernel
theorem dL_interest_28 : decode cL_interest 28 = .ok (.ireturn, 1) := by decide +kernel
theorem dL_lend_0 : decode cL_lend 0 = .ok (.aload 6, 2) := by decide +kernel
theorem dL_lend_2 : decode cL_lend 2 = .ok (.iconst 0, 1) := by decide +kernel
theorem dL_lend_3 : decode cL_lend 3 = .ok (.aload_n 0, 1) := by decide +kernel
theorem dL_lend_4 : decode cL_lend 4 = .ok (.lload_n 1, 1) := by decide +kernel
theorem dL_lend_5 : decode cL_lend 5 = .ok (.iload_n 3, 1) := by decide +kernel
theorem dL_lend_6 : decode cL_lend 6 = .ok (.lload 4, 2) := by decide +kernel
theorem dL_lend_8 : decode cL_lend 8 = .ok (.invokevirtual 134, 3) := by decide +kernel
theorem dL_lend_11 : decode cL_lend 11 = .ok (.i2l, 1) := by decide +kernel
theorem dL_lend_12 : decode cL_lend 12 = .ok (.lastore, 1) := by decide +kernel
theorem dL_lend_13 : decode cL_lend 13 = .ok (.goto 15, 3) := by decide +kernel
theorem dL_lend_16 : decode cL_lend 16 = .ok (.astore 7, 2) := by decide +kernel
theorem dL_lend_18 : decode cL_lend 18 = .ok (.iconst 1, 1) := by decide +kernel
theorem dL_lend_19 : decode cL_lend 19 = .ok (.ireturn, 1) := by decide +kernel
theorem dL_lend_20 : decode cL_lend 20 = .ok (.astore 7, 2) := by decide +kernel
theorem dL_lend_22 : decode cL_lend 22 = .ok (.iconst 2, 1) := by decide +kernel
theorem dL_lend_23 : decode cL_lend 23 = .ok (.ireturn, 1) := by decide +kernel
theorem dL_lend_24 : decode cL_lend 24 = .ok (.astore 7, 2) := by decide +kernel
theorem dL_lend_26 : decode cL_lend 26 = .ok (.iconst 3, 1) := by decide +kernel
theorem dL_lend_27 : decode cL_lend 27 = .ok (.ireturn, 1) := by decide +kernel
theorem dL_lend_28 : decode cL_lend 28 = .ok (.iconst 0, 1) := by decide +kernel
theorem dL_lend_29 : decode cL_lend 29 = .ok (.ireturn, 1) := by decide +kernel
theorem dL_instalment_0 : decode cL_instalment 0 = .ok (.aload_n 3, 1) := by decide +kernel
theorem dL_instalment_1 : decode cL_instalment 1 = .ok (.iconst 0, 1) := by decide +kernel
theorem dL_instalment_2 : decode cL_instalment 2 = .ok (.aload_n 0, 1) := by decide +kernel
theorem dL_instalment_3 : decode cL_instalment 3 = .ok (.iload_n 1, 1) := by decide +kernel
theorem dL_instalment_4 : decode cL_instalment 4 = .ok (.iload_n 2, 1) := by decide +kernel
theorem dL_instalment_5 : decode cL_instalment 5 = .ok (.invokevirtual 138, 3) := by decide +kernel
theorem dL_instalment_8 : decode cL_instalment 8 = .ok (.lastore, 1) := by decide +kernel
theorem dL_instalment_9 : decode cL_instalment 9 = .ok (.goto 11, 3) := by decide +kernel
theorem dL_instalment_12 : decode cL_instalment 12 = .ok (.astore 4, 2) := by decide +kernel
theorem dL_instalment_14 : decode cL_instalment 14 = .ok (.iconst 1, 1) := by decide +kernel
theorem dL_instalment_15 : decode cL_instalment 15 = .ok (.ireturn, 1) := by decide +kernel
theorem dL_instalment_16 : decode cL_instalment 16 = .ok (.astore 4, 2) := by decide +kernel
theorem dL_instalment_18 : decode cL_instalment 18 = .ok (.iconst 2, 1) := by decide +kernel
theorem dL_instalment_19 : decode cL_instalment 19 = .ok (.ireturn, 1) := by decide +kernel
theorem dL_instalment_20 : decode cL_instalment 20 = .ok (.iconst 0, 1) := by decide +kernel
theorem dL_instalment_21 : decode cL_instalment 21 = .ok (.ireturn, 1) := by decide +kernel
theorem dL_post_0 : decode cL_post 0 = .ok (.aload 6, 2) := by decide +kernel
theorem dL_post_2 : decode cL_post 2 = .ok (.iconst 0, 1) := by decide +kernel
theorem dL_post_3 : decode cL_post 3 = .ok (.aload_n 0, 1) := by decide +kernel
theorem dL_post_4 : decode cL_post 4 = .ok (.iload_n 1, 1) := by decide +kernel
theorem dL_post_5 : decode cL_post 5 = .ok (.iload_n 2, 1) := by decide +kernel
theorem dL_post_6 : decode cL_post 6 = .ok (.iload_n 3, 1) := by decide +kernel
theorem dL_post_7 : decode cL_post 7 = .ok (.lload 4, 2) := by decide +kernel
theorem dL_post_9 : decode cL_post 9 = .ok (.invokevirtual 142, 3) := by decide +kernel
theorem dL_post_12 : decode cL_post 12 = .ok (.i2l, 1) := by decide +kernel
theorem dL_post_13 : decode cL_post 13 = .ok (.lastore, 1) := by decide +kernel
theorem dL_post_14 : decode cL_post 14 = .ok (.goto 19, 3) := by decide +kernel
theorem dL_post_17 : decode cL_post 17 = .ok (.astore 7, 2) := by decide +kernel
theorem dL_post_19 : decode cL_post 19 = .ok (.iconst 1, 1) := by decide +kernel
theorem dL_post_20 : decode cL_post 20 = .ok (.ireturn, 1) := by decide +kernel
theorem dL_post_21 : decode cL_post 21 = .ok (.astore 7, 2) := by decide +kernel
theorem dL_post_23 : decode cL_post 23 = .ok (.iconst 2, 1) := by decide +kernel
theorem dL_post_24 : decode cL_post 24 = .ok (.ireturn, 1) := by decide +kernel
theorem dL_post_25 : decode cL_post 25 = .ok (.astore 7, 2) := by decide +kernel
theorem dL_post_27 : decode cL_post 27 = .ok (.iconst 3, 1) := by decide +kernel
theorem dL_post_28 : decode cL_post 28 = .ok (.ireturn, 1) := by decide +kernel
theorem dL_post_29 : decode cL_post 29 = .ok (.astore 7, 2) := by decide +kernel
theorem dL_post_31 : decode cL_post 31 = .ok (.iconst 4, 1) := by decide +kernel
theorem dL_post_32 : decode cL_post 32 = .ok (.ireturn, 1) := by decide +kernel
theorem dL_post_33 : decode cL_post 33 = .ok (.iconst 0, 1) := by decide +kernel
theorem dL_post_34 : decode cL_post 34 = .ok (.ireturn, 1) := by decide +kernel
theorem dL_book_0 : decode cL_book 0 = .ok (.aload_n 2, 1) := by decide +kernel
theorem dL_book_1 : decode cL_book 1 = .ok (.iconst 0, 1) := by decide +kernel
theorem dL_book_2 : decode cL_book 2 = .ok (.aload_n 0, 1) := by decide +kernel
theorem dL_book_3 : decode cL_book 3 = .ok (.iload_n 1, 1) := by decide +kernel
theorem dL_book_4 : decode cL_book 4 = .ok (.invokevirtual 146, 3) := by decide +kernel
theorem dL_book_7 : decode cL_book 7 = .ok (.i2l, 1) := by decide +kernel
theorem dL_book_8 : decode cL_book 8 = .ok (.lastore, 1) := by decide +kernel
theorem dL_book_9 : decode cL_book 9 = .ok (.goto 18, 3) := by decide +kernel
theorem dL_book_12 : decode cL_book 12 = .ok (.astore_n 3, 1) := by decide +kernel
theorem dL_book_13 : decode cL_book 13 = .ok (.iconst 1, 1) := by decide +kernel
theorem dL_book_14 : decode cL_book 14 = .ok (.ireturn, 1) := by decide +kernel
theorem dL_book_15 : decode cL_book 15 = .ok (.astore_n 3, 1) := by decide +kernel
theorem dL_book_16 : decode cL_book 16 = .ok (.iconst 2, 1) := by decide +kernel
theorem dL_book_17 : decode cL_book 17 = .ok (.ireturn, 1) := by decide +kernel
theorem dL_book_18 : decode cL_book 18 = .ok (.astore_n 3, 1) := by decide +kernel
theorem dL_book_19 : decode cL_book 19 = .ok (.iconst 3, 1) := by decide +kernel
theorem dL_book_20 : decode cL_book 20 = .ok (.ireturn, 1) := by decide +kernel
theorem dL_book_21 : decode cL_book 21 = .ok (.astore_n 3, 1) := by decide +kernel
theorem dL_book_22 : decode cL_book 22 = .ok (.iconst 4, 1) := by decide +kernel
theorem dL_book_23 : decode cL_book 23 = .ok (.ireturn, 1) := by decide +kernel
theorem dL_book_24 : decode cL_book 24 = .ok (.astore_n 3, 1) := by decide +kernel
theorem dL_book_25 : decode cL_book 25 = .ok (.iconst 5, 1) := by decide +kernel
theorem dL_book_26 : decode cL_book 26 = .ok (.ireturn, 1) := by decide +kernel
theorem dL_book_27 : decode cL_book 27 = .ok (.iconst 0, 1) := by decide +kernel
theorem dL_book_28 : decode cL_book 28 = .ok (.ireturn, 1) := by decide +kernel
theorem dL_isBooked_0 : decode cL_isBooked 0 = .ok (.aload_n 2, 1) := by decide +kernel
theorem dL_isBooked_1 : decode cL_isBooked 1 = .ok (.iconst 0, 1) := by decide +kernel
theorem dL_isBooked_2 : decode cL_isBooked 2 = .ok (.aload_n 0, 1) := by decide +kernel
theorem dL_isBooked_3 : decode cL_isBooked 3 = .ok (.iload_n 1, 1) := by decide +kernel
theorem dL_isBooked_4 : decode cL_isBooked 4 = .ok (.invokevirtual 149, 3) := by decide +kernel
theorem dL_isBooked_7 : decode cL_isBooked 7 = .ok (.ifCond .eq 7, 3) := by decide +kernel
theorem dL_isBooked_10 : decode cL_isBooked 10 = .ok (.lconst 1, 1) := by decide +kernel
theorem dL_isBooked_11 : decode cL_isBooked 11 = .ok (.goto 4, 3) := by decide +kernel
theorem dL_isBooked_14 : decode cL_isBooked 14 = .ok (.lconst 0, 1) := by decide +kernel
theorem dL_isBooked_15 : decode cL_isBooked 15 = .ok (.lastore, 1) := by decide +kernel
theorem dL_isBooked_16 : decode cL_isBooked 16 = .ok (.goto 6, 3) := by decide +kernel
theorem dL_isBooked_19 : decode cL_isBooked 19 = .ok (.astore_n 3, 1) := by decide +kernel
theorem dL_isBooked_20 : decode cL_isBooked 20 = .ok (.iconst 1, 1) := by decide +kernel
theorem dL_isBooked_21 : decode cL_isBooked 21 = .ok (.ireturn, 1) := by decide +kernel
theorem dL_isBooked_22 : decode cL_isBooked 22 = .ok (.iconst 0, 1) := by decide +kernel
theorem dL_isBooked_23 : decode cL_isBooked 23 = .ok (.ireturn, 1) := by decide +kernel
theorem dL_side_0 : decode cL_side 0 = .ok (.aload 4, 2) := by decide +kernel
theorem dL_side_2 : decode cL_side 2 = .ok (.iconst 0, 1) := by decide +kernel
theorem dL_side_3 : decode cL_side 3 = .ok (.aload_n 0, 1) := by decide +kernel
theorem dL_side_4 : decode cL_side 4 = .ok (.iload_n 1, 1) := by decide +kernel
theorem dL_side_5 : decode cL_side 5 = .ok (.iload_n 2, 1) := by decide +kernel
theorem dL_side_6 : decode cL_side 6 = .ok (.iload_n 3, 1) := by decide +kernel
theorem dL_side_7 : decode cL_side 7 = .ok (.invokevirtual 153, 3) := by decide +kernel
theorem dL_side_10 : decode cL_side 10 = .ok (.lastore, 1) := by decide +kernel
theorem dL_side_11 : decode cL_side 11 = .ok (.goto 11, 3) := by decide +kernel
theorem dL_side_14 : decode cL_side 14 = .ok (.astore 5, 2) := by decide +kernel
theorem dL_side_16 : decode cL_side 16 = .ok (.iconst 1, 1) := by decide +kernel
theorem dL_side_17 : decode cL_side 17 = .ok (.ireturn, 1) := by decide +kernel
theorem dL_side_18 : decode cL_side 18 = .ok (.astore 5, 2) := by decide +kernel
theorem dL_side_20 : decode cL_side 20 = .ok (.iconst 2, 1) := by decide +kernel
theorem dL_side_21 : decode cL_side 21 = .ok (.ireturn, 1) := by decide +kernel
theorem dL_side_22 : decode cL_side 22 = .ok (.iconst 0, 1) := by decide +kernel
theorem dL_side_23 : decode cL_side 23 = .ok (.ireturn, 1) := by decide +kernel
theorem dL_nextAccount_0 : decode cL_nextAccount 0 = .ok (.aload_n 2, 1) := by decide +kernel
theorem dL_nextAccount_1 : decode cL_nextAccount 1 = .ok (.iconst 0, 1) := by decide +kernel
theorem dL_nextAccount_2 : decode cL_nextAccount 2 = .ok (.aload_n 0, 1) := by decide +kernel
theorem dL_nextAccount_3 : decode cL_nextAccount 3 = .ok (.iload_n 1, 1) := by decide +kernel
theorem dL_nextAccount_4 : decode cL_nextAccount 4 = .ok (.invokevirtual 157, 3) := by decide +kernel
theorem dL_nextAccount_7 : decode cL_nextAccount 7 = .ok (.i2l, 1) := by decide +kernel
theorem dL_nextAccount_8 : decode cL_nextAccount 8 = .ok (.lastore, 1) := by decide +kernel
theorem dL_nextAccount_9 : decode cL_nextAccount 9 = .ok (.goto 6, 3) := by decide +kernel
theorem dL_nextAccount_12 : decode cL_nextAccount 12 = .ok (.astore_n 3, 1) := by decide +kernel
theorem dL_nextAccount_13 : decode cL_nextAccount 13 = .ok (.iconst 1, 1) := by decide +kernel
theorem dL_nextAccount_14 : decode cL_nextAccount 14 = .ok (.ireturn, 1) := by decide +kernel
theorem dL_nextAccount_15 : decode cL_nextAccount 15 = .ok (.iconst 0, 1) := by decide +kernel
theorem dL_nextAccount_16 : decode cL_nextAccount 16 = .ok (.ireturn, 1) := by decide +kernel
theorem dL_shut_0 : decode cL_shut 0 = .ok (.aload_n 2, 1) := by decide +kernel
theorem dL_shut_1 : decode cL_shut 1 = .ok (.iconst 0, 1) := by decide +kernel
theorem dL_shut_2 : decode cL_shut 2 = .ok (.aload_n 0, 1) := by decide +kernel
theorem dL_shut_3 : decode cL_shut 3 = .ok (.iload_n 1, 1) := by decide +kernel
theorem dL_shut_4 : decode cL_shut 4 = .ok (.invokevirtual 160, 3) := by decide +kernel
theorem dL_shut_7 : decode cL_shut 7 = .ok (.i2l, 1) := by decide +kernel
theorem dL_shut_8 : decode cL_shut 8 = .ok (.lastore, 1) := by decide +kernel
theorem dL_shut_9 : decode cL_shut 9 = .ok (.goto 9, 3) := by decide +kernel
theorem dL_shut_12 : decode cL_shut 12 = .ok (.astore_n 3, 1) := by decide +kernel
theorem dL_shut_13 : decode cL_shut 13 = .ok (.iconst 1, 1) := by decide +kernel
theorem dL_shut_14 : decode cL_shut 14 = .ok (.ireturn, 1) := by decide +kernel
theorem dL_shut_15 : decode cL_shut 15 = .ok (.astore_n 3, 1) := by decide +kernel
theorem dL_shut_16 : decode cL_shut 16 = .ok (.iconst 2, 1) := by decide +kernel
theorem dL_shut_17 : decode cL_shut 17 = .ok (.ireturn, 1) := by decide +kernel
theorem dL_shut_18 : decode cL_shut 18 = .ok (.iconst 0, 1) := by decide +kernel
theorem dL_shut_19 : decode cL_shut 19 = .ok (.ireturn, 1) := by decide +kernel
theorem dL_undo_0 : decode cL_undo 0 = .ok (.aload_n 1, 1) := by decide +kernel
theorem dL_undo_1 : decode cL_undo 1 = .ok (.iconst 0, 1) := by decide +kernel
theorem dL_undo_2 : decode cL_undo 2 = .ok (.aload_n 0, 1) := by decide +kernel
theorem dL_undo_3 : decode cL_undo 3 = .ok (.invokevirtual 163, 3) := by decide +kernel
theorem dL_undo_6 : decode cL_undo 6 = .ok (.i2l, 1) := by decide +kernel
theorem dL_undo_7 : decode cL_undo 7 = .ok (.lastore, 1) := by decide +kernel
theorem dL_undo_8 : decode cL_undo 8 = .ok (.goto 9, 3) := by decide +kernel
theorem dL_undo_11 : decode cL_undo 11 = .ok (.astore_n 2, 1) := by decide +kernel
theorem dL_undo_12 : decode cL_undo 12 = .ok (.iconst 1, 1) := by decide +kernel
theorem dL_undo_13 : decode cL_undo 13 = .ok (.ireturn, 1) := by decide +kernel
theorem dL_undo_14 : decode cL_undo 14 = .ok (.astore_n 2, 1) := by decide +kernel
theorem dL_undo_15 : decode cL_undo 15 = .ok (.iconst 2, 1) := by decide +kernel
theorem dL_undo_16 : decode cL_undo 16 = .ok (.ireturn, 1) := by decide +kernel
theorem dL_undo_17 : decode cL_undo 17 = .ok (.iconst 0, 1) := by decide +kernel
theorem dL_undo_18 : decode cL_undo 18 = .ok (.ireturn, 1) := by decide +kernel

/-! the cells of the model and of the class, by number -/
def gno : Nat → Option Nat := fun _ => none
def gfam (ad : Nat → Nat) (b n : Nat) : Nat → Option Nat := fun j => if j < n then some (ad (b + j)) else none
theorem gfam_at {ad : Nat → Nat} {b n j : Nat} (h : j < n) : gfam ad b n j = some (ad (b + j)) := if_pos h
theorem vp_in_lt {i : Int32} {n : Nat} (h : vp_in i n) : i.toNatClampNeg < n := Nat.not_le.mp fun q => h (Or.inr q)
def gLsM (V : gV) : List (Nat × gD) := [(200, .inl (10, [.inl 0, .inr (some (V.2.1 201)), .inr (some (V.2.1 202)), .inr (some (V.2.1 203)), .inr (some (V.2.1 204)), .inl 0, .inr (some (V.2.1 205)), .inr (some (V.2.1 206)), .inr (some (V.2.1 207)), .inr (some (V.2.1 208)), .inr (some (V.2.1 209)), .inl 0, .inr (some (V.2.1 210)), .inl 0, .inl 0, .inl 0, .inl 0, .inl 0, .inr (some (V.2.1 211)), .inr (some (V.2.1 212)), .inr (some (V.2.1 213)), .inr (some (V.2.1 214)), .inr (some (V.2.1 215)), .inr (some (V.2.1 216)), .inr (some (V.2.1 217)), .inr (some (V.2.1 218)), .inr (some (V.2.1 219)), .inr (some (V.2.1 220)), .inr (some (V.2.1 221)), .inl 1, .inl 0, .inl 0, .inl 0, .inr (some (V.2.1 222)), .inr (some (V.2.1 223)), .inr (some (V.2.1 224)), .inr (some (V.2.1 225)), .inr (some (V.2.1 226)), .inr (some (V.2.1 227)), .inr (some (V.2.1 228)), .inl 0, .inl 0, .inr (some (V.2.1 229)), .inr (some (V.2.1 230)), .inl 0])), (201, .inr (0, 32, gno)), (202, .inr (0, 4096, gno)), (203, .inr (0, 4096, gno)), (204, .inr (0, 4096, gno)), (205, .inr (0, 4, gno)), (206, .inr (1, 50000, gno)), (207, .inr (3, 10000, gno)), (208, .inr (1, 10000, gno)), (209, .inr (1, 10000, gno)), (210, .inr (0, 6, gno)), (211, .inr (0, 1200, gno)), (212, .inr (0, 7, gno)), (213, .inr (0, 1200, gno)), (214, .inr (0, 1200, gno)), (215, .inr (0, 22, gno)), (216, .inr (1, 1048576, gno)), (217, .inr (2, 1048576, gno)), (218, .inr (3, 1048576, gno)), (219, .inr (0, 8, gno)), (220, .inr (0, 8, gno)), (221, .inr (0, 8, gno)), (222, .inr (0, 54, gno)), (223, .inr (1, 6, gno)), (224, .inr (1, 6, gno)), (225, .inr (0, 78, gno)), (226, .inr (0, 6, gno)), (227, .inr (0, 6, gno)), (228, .inr (3, 1296, gno)), (229, .inr (0, 6, gno)), (230, .inr (0, 20, gno))]
def gModM (V : gV) : Prop := ∀ q ∈ gLsM  V, q.1 ∈ V.1 ∧ V.2.2 q.1 = q.2
theorem c_200 {V : gV} (h : gModM V) : 200 ∈ V.1 ∧ V.2.2 200 = .inl (10, [.inl 0, .inr (some (V.2.1 201)), .inr (some (V.2.1 202)), .inr (some (V.2.1 203)), .inr (some (V.2.1 204)), .inl 0, .inr (some (V.2.1 205)), .inr (some (V.2.1 206)), .inr (some (V.2.1 207)), .inr (some (V.2.1 208)), .inr (some (V.2.1 209)), .inl 0, .inr (some (V.2.1 210)), .inl 0, .inl 0, .inl 0, .inl 0, .inl 0, .inr (some (V.2.1 211)), .inr (some (V.2.1 212)), .inr (some (V.2.1 213)), .inr (some (V.2.1 214)), .inr (some (V.2.1 215)), .inr (some (V.2.1 216)), .inr (some (V.2.1 217)), .inr (some (V.2.1 218)), .inr (some (V.2.1 219)), .inr (some (V.2.1 220)), .inr (some (V.2.1 221)), .inl 1, .inl 0, .inl 0, .inl 0, .inr (some (V.2.1 222)), .inr (some (V.2.1 223)), .inr (some (V.2.1 224)), .inr (some (V.2.1 225)), .inr (some (V.2.1 226)), .inr (some (V.2.1 227)), .inr (some (V.2.1 228)), .inl 0, .inl 0, .inr (some (V.2.1 229)), .inr (some (V.2.1 230)), .inl 0]) := h (200, _) (List.mem_of_getElem? (i := 0) rfl)
theorem c_201 {V : gV} (h : gModM V) : 201 ∈ V.1 ∧ V.2.2 201 = .inr (0, 32, gno) := h (201, _) (List.mem_of_getElem? (i := 1) rfl)
theorem c_202 {V : gV} (h : gModM V) : 202 ∈ V.1 ∧ V.2.2 202 = .inr (0, 4096, gno) := h (202, _) (List.mem_of_getElem? (i := 2) rfl)
theorem c_203 {V : gV} (h : gModM V) : 203 ∈ V.1 ∧ V.2.2 203 = .inr (0, 4096, gno) := h (203, _) (List.mem_of_getElem? (i := 3) rfl)
theorem c_204 {V : gV} (h : gModM V) : 204 ∈ V.1 ∧ V.2.2 204 = .inr (0, 4096, gno) := h (204, _) (List.mem_of_getElem? (i := 4) rfl)
theorem c_205 {V : gV} (h : gModM V) : 205 ∈ V.1 ∧ V.2.2 205 = .inr (0, 4, gno) := h (205, _) (List.mem_of_getElem? (i := 5) rfl)
theorem c_206 {V : gV} (h : gModM V) : 206 ∈ V.1 ∧ V.2.2 206 = .inr (1, 50000, gno) := h (206, _) (List.mem_of_getElem? (i := 6) rfl)
theorem c_207 {V : gV} (h : gModM V) : 207 ∈ V.1 ∧ V.2.2 207 = .inr (3, 10000, gno) := h (207, _) (List.mem_of_getElem? (i := 7) rfl)
theorem c_208 {V : gV} (h : gModM V) : 208 ∈ V.1 ∧ V.2.2 208 = .inr (1, 10000, gno) := h (208, _) (List.mem_of_getElem? (i := 8) rfl)
theorem c_209 {V : gV} (h : gModM V) : 209 ∈ V.1 ∧ V.2.2 209 = .inr (1, 10000, gno) := h (209, _) (List.mem_of_getElem? (i := 9) rfl)
theorem c_210 {V : gV} (h : gModM V) : 210 ∈ V.1 ∧ V.2.2 210 = .inr (0, 6, gno) := h (210, _) (List.mem_of_getElem? (i := 10) rfl)
theorem c_211 {V : gV} (h : gModM V) : 211 ∈ V.1 ∧ V.2.2 211 = .inr (0, 1200, gno) := h (211, _) (List.mem_of_getElem? (i := 11) rfl)
theorem c_212 {V : gV} (h : gModM V) : 212 ∈ V.1 ∧ V.2.2 212 = .inr (0, 7, gno) := h (212, _) (List.mem_of_getElem? (i := 12) rfl)
theorem c_213 {V : gV} (h : gModM V) : 213 ∈ V.1 ∧ V.2.2 213 = .inr (0, 1200, gno) := h (213, _) (List.mem_of_getElem? (i := 13) rfl)
theorem c_214 {V : gV} (h : gModM V) : 214 ∈ V.1 ∧ V.2.2 214 = .inr (0, 1200, gno) := h (214, _) (List.mem_of_getElem? (i := 14) rfl)
theorem c_215 {V : gV} (h : gModM V) : 215 ∈ V.1 ∧ V.2.2 215 = .inr (0, 22, gno) := h (215, _) (List.mem_of_getElem? (i := 15) rfl)
theorem c_216 {V : gV} (h : gModM V) : 216 ∈ V.1 ∧ V.2.2 216 = .inr (1, 1048576, gno) := h (216, _) (List.mem_of_getElem? (i := 16) rfl)
theorem c_217 {V : gV} (h : gModM V) : 217 ∈ V.1 ∧ V.2.2 217 = .inr (2, 1048576, gno) := h (217, _) (List.mem_of_getElem? (i := 17) rfl)
theorem c_218 {V : gV} (h : gModM V) : 218 ∈ V.1 ∧ V.2.2 218 = .inr (3, 1048576, gno) := h (218, _) (List.mem_of_getElem? (i := 18) rfl)
theorem c_219 {V : gV} (h : gModM V) : 219 ∈ V.1 ∧ V.2.2 219 = .inr (0, 8, gno) := h (219, _) (List.mem_of_getElem? (i := 19) rfl)
theorem c_220 {V : gV} (h : gModM V) : 220 ∈ V.1 ∧ V.2.2 220 = .inr (0, 8, gno) := h (220, _) (List.mem_of_getElem? (i := 20) rfl)
theorem c_221 {V : gV} (h : gModM V) : 221 ∈ V.1 ∧ V.2.2 221 = .inr (0, 8, gno) := h (221, _) (List.mem_of_getElem? (i := 21) rfl)
theorem c_222 {V : gV} (h : gModM V) : 222 ∈ V.1 ∧ V.2.2 222 = .inr (0, 54, gno) := h (222, _) (List.mem_of_getElem? (i := 22) rfl)
theorem c_223 {V : gV} (h : gModM V) : 223 ∈ V.1 ∧ V.2.2 223 = .inr (1, 6, gno) := h (223, _) (List.mem_of_getElem? (i := 23) rfl)
theorem c_224 {V : gV} (h : gModM V) : 224 ∈ V.1 ∧ V.2.2 224 = .inr (1, 6, gno) := h (224, _) (List.mem_of_getElem? (i := 24) rfl)
theorem c_225 {V : gV} (h : gModM V) : 225 ∈ V.1 ∧ V.2.2 225 = .inr (0, 78, gno) := h (225, _) (List.mem_of_getElem? (i := 25) rfl)
theorem c_226 {V : gV} (h : gModM V) : 226 ∈ V.1 ∧ V.2.2 226 = .inr (0, 6, gno) := h (226, _) (List.mem_of_getElem? (i := 26) rfl)
theorem c_227 {V : gV} (h : gModM V) : 227 ∈ V.1 ∧ V.2.2 227 = .inr (0, 6, gno) := h (227, _) (List.mem_of_getElem? (i := 27) rfl)
theorem c_228 {V : gV} (h : gModM V) : 228 ∈ V.1 ∧ V.2.2 228 = .inr (3, 1296, gno) := h (228, _) (List.mem_of_getElem? (i := 28) rfl)
theorem c_229 {V : gV} (h : gModM V) : 229 ∈ V.1 ∧ V.2.2 229 = .inr (0, 6, gno) := h (229, _) (List.mem_of_getElem? (i := 29) rfl)
theorem c_230 {V : gV} (h : gModM V) : 230 ∈ V.1 ∧ V.2.2 230 = .inr (0, 20, gno) := h (230, _) (List.mem_of_getElem? (i := 30) rfl)
def gLsTS (V : gV) : List (Nat × gD) := [(10, .inl (8, [.inr (some (V.2.1 11)), .inr (some (V.2.1 12)), .inr (some (V.2.1 13)), .inr (some (V.2.1 14)), .inl 0])), (11, .inr (0, 8, gno)), (12, .inr (0, 8, gno)), (13, .inr (0, 8, gno)), (14, .inr (0, 8, gno))]
def gModTS (V : gV) : Prop := ∀ q ∈ gLsTS  V, q.1 ∈ V.1 ∧ V.2.2 q.1 = q.2
theorem c_10 {V : gV} (h : gModTS V) : 10 ∈ V.1 ∧ V.2.2 10 = .inl (8, [.inr (some (V.2.1 11)), .inr (some (V.2.1 12)), .inr (some (V.2.1 13)), .inr (some (V.2.1 14)), .inl 0]) := h (10, _) (List.mem_of_getElem? (i := 0) rfl)
theorem c_11 {V : gV} (h : gModTS V) : 11 ∈ V.1 ∧ V.2.2 11 = .inr (0, 8, gno) := h (11, _) (List.mem_of_getElem? (i := 1) rfl)
theorem c_12 {V : gV} (h : gModTS V) : 12 ∈ V.1 ∧ V.2.2 12 = .inr (0, 8, gno) := h (12, _) (List.mem_of_getElem? (i := 2) rfl)
theorem c_13 {V : gV} (h : gModTS V) : 13 ∈ V.1 ∧ V.2.2 13 = .inr (0, 8, gno) := h (13, _) (List.mem_of_getElem? (i := 3) rfl)
theorem c_14 {V : gV} (h : gModTS V) : 14 ∈ V.1 ∧ V.2.2 14 = .inr (0, 8, gno) := h (14, _) (List.mem_of_getElem? (i := 4) rfl)
def gLsJG (V : gV) : List (Nat × gD) := [(20, .inl (4, [.inl 0, .inl 0, .inl 0, .inl 0, .inl 0, .inl 0, .inl 0, .inl 0, .inr (some (V.2.1 21)), .inr (some (V.2.1 22)), .inr (some (V.2.1 29)), .inr (some (V.2.1 36)), .inr (some (V.2.1 37))])), (21, .inr (0, 6, gno)), (22, .inr (4, 6, gfam V.2.1 23 6)), (23, .inr (0, 160, gno)), (24, .inr (0, 160, gno)), (25, .inr (0, 160, gno)), (26, .inr (0, 160, gno)), (27, .inr (0, 160, gno)), (28, .inr (0, 160, gno)), (29, .inr (4, 6, gfam V.2.1 30 6)), (30, .inr (0, 20, gno)), (31, .inr (0, 20, gno)), (32, .inr (0, 20, gno)), (33, .inr (0, 20, gno)), (34, .inr (0, 20, gno)), (35, .inr (0, 20, gno)), (36, .inr (0, 5, gno)), (37, .inr (0, 5, gno))]
def gModJG (V : gV) : Prop := ∀ q ∈ gLsJG  V, q.1 ∈ V.1 ∧ V.2.2 q.1 = q.2
theorem c_20 {V : gV} (h : gModJG V) : 20 ∈ V.1 ∧ V.2.2 20 = .inl (4, [.inl 0, .inl 0, .inl 0, .inl 0, .inl 0, .inl 0, .inl 0, .inl 0, .inr (some (V.2.1 21)), .inr (some (V.2.1 22)), .inr (some (V.2.1 29)), .inr (some (V.2.1 36)), .inr (some (V.2.1 37))]) := h (20, _) (List.mem_of_getElem? (i := 0) rfl)
theorem c_21 {V : gV} (h : gModJG V) : 21 ∈ V.1 ∧ V.2.2 21 = .inr (0, 6, gno) := h (21, _) (List.mem_of_getElem? (i := 1) rfl)
theorem c_22 {V : gV} (h : gModJG V) : 22 ∈ V.1 ∧ V.2.2 22 = .inr (4, 6, gfam V.2.1 23 6) := h (22, _) (List.mem_of_getElem? (i := 2) rfl)
theorem c_23 {V : gV} (h : gModJG V) : 23 ∈ V.1 ∧ V.2.2 23 = .inr (0, 160, gno) := h (23, _) (List.mem_of_getElem? (i := 3) rfl)
theorem c_24 {V : gV} (h : gModJG V) : 24 ∈ V.1 ∧ V.2.2 24 = .inr (0, 160, gno) := h (24, _) (List.mem_of_getElem? (i := 4) rfl)
theorem c_25 {V : gV} (h : gModJG V) : 25 ∈ V.1 ∧ V.2.2 25 = .inr (0, 160, gno) := h (25, _) (List.mem_of_getElem? (i := 5) rfl)
theorem c_26 {V : gV} (h : gModJG V) : 26 ∈ V.1 ∧ V.2.2 26 = .inr (0, 160, gno) := h (26, _) (List.mem_of_getElem? (i := 6) rfl)
theorem c_27 {V : gV} (h : gModJG V) : 27 ∈ V.1 ∧ V.2.2 27 = .inr (0, 160, gno) := h (27, _) (List.mem_of_getElem? (i := 7) rfl)
theorem c_28 {V : gV} (h : gModJG V) : 28 ∈ V.1 ∧ V.2.2 28 = .inr (0, 160, gno) := h (28, _) (List.mem_of_getElem? (i := 8) rfl)
theorem c_29 {V : gV} (h : gModJG V) : 29 ∈ V.1 ∧ V.2.2 29 = .inr (4, 6, gfam V.2.1 30 6) := h (29, _) (List.mem_of_getElem? (i := 9) rfl)
theorem c_30 {V : gV} (h : gModJG V) : 30 ∈ V.1 ∧ V.2.2 30 = .inr (0, 20, gno) := h (30, _) (List.mem_of_getElem? (i := 10) rfl)
theorem c_31 {V : gV} (h : gModJG V) : 31 ∈ V.1 ∧ V.2.2 31 = .inr (0, 20, gno) := h (31, _) (List.mem_of_getElem? (i := 11) rfl)
theorem c_32 {V : gV} (h : gModJG V) : 32 ∈ V.1 ∧ V.2.2 32 = .inr (0, 20, gno) := h (32, _) (List.mem_of_getElem? (i := 12) rfl)
theorem c_33 {V : gV} (h : gModJG V) : 33 ∈ V.1 ∧ V.2.2 33 = .inr (0, 20, gno) := h (33, _) (List.mem_of_getElem? (i := 13) rfl)
theorem c_34 {V : gV} (h : gModJG V) : 34 ∈ V.1 ∧ V.2.2 34 = .inr (0, 20, gno) := h (34, _) (List.mem_of_getElem? (i := 14) rfl)
theorem c_35 {V : gV} (h : gModJG V) : 35 ∈ V.1 ∧ V.2.2 35 = .inr (0, 20, gno) := h (35, _) (List.mem_of_getElem? (i := 15) rfl)
theorem c_36 {V : gV} (h : gModJG V) : 36 ∈ V.1 ∧ V.2.2 36 = .inr (0, 5, gno) := h (36, _) (List.mem_of_getElem? (i := 16) rfl)
theorem c_37 {V : gV} (h : gModJG V) : 37 ∈ V.1 ∧ V.2.2 37 = .inr (0, 5, gno) := h (37, _) (List.mem_of_getElem? (i := 17) rfl)
def gLsBL (V : gV) : List (Nat × gD) := [(40, .inl (0, [.inl 0, .inl 0, .inr (some (V.2.1 41)), .inr (some (V.2.1 48)), .inr (some (V.2.1 49)), .inr (some (V.2.1 50)), .inr (some (V.2.1 51))])), (41, .inr (4, 6, gfam V.2.1 42 6)), (42, .inr (0, 9, gno)), (43, .inr (0, 9, gno)), (44, .inr (0, 9, gno)), (45, .inr (0, 9, gno)), (46, .inr (0, 9, gno)), (47, .inr (0, 9, gno)), (48, .inr (1, 6, gno)), (49, .inr (1, 6, gno)), (50, .inr (0, 6, gno)), (51, .inr (0, 6, gno))]
def gModBL (V : gV) : Prop := ∀ q ∈ gLsBL  V, q.1 ∈ V.1 ∧ V.2.2 q.1 = q.2
theorem c_40 {V : gV} (h : gModBL V) : 40 ∈ V.1 ∧ V.2.2 40 = .inl (0, [.inl 0, .inl 0, .inr (some (V.2.1 41)), .inr (some (V.2.1 48)), .inr (some (V.2.1 49)), .inr (some (V.2.1 50)), .inr (some (V.2.1 51))]) := h (40, _) (List.mem_of_getElem? (i := 0) rfl)
theorem c_41 {V : gV} (h : gModBL V) : 41 ∈ V.1 ∧ V.2.2 41 = .inr (4, 6, gfam V.2.1 42 6) := h (41, _) (List.mem_of_getElem? (i := 1) rfl)
theorem c_42 {V : gV} (h : gModBL V) : 42 ∈ V.1 ∧ V.2.2 42 = .inr (0, 9, gno) := h (42, _) (List.mem_of_getElem? (i := 2) rfl)
theorem c_43 {V : gV} (h : gModBL V) : 43 ∈ V.1 ∧ V.2.2 43 = .inr (0, 9, gno) := h (43, _) (List.mem_of_getElem? (i := 3) rfl)
theorem c_44 {V : gV} (h : gModBL V) : 44 ∈ V.1 ∧ V.2.2 44 = .inr (0, 9, gno) := h (44, _) (List.mem_of_getElem? (i := 4) rfl)
theorem c_45 {V : gV} (h : gModBL V) : 45 ∈ V.1 ∧ V.2.2 45 = .inr (0, 9, gno) := h (45, _) (List.mem_of_getElem? (i := 5) rfl)
theorem c_46 {V : gV} (h : gModBL V) : 46 ∈ V.1 ∧ V.2.2 46 = .inr (0, 9, gno) := h (46, _) (List.mem_of_getElem? (i := 6) rfl)
theorem c_47 {V : gV} (h : gModBL V) : 47 ∈ V.1 ∧ V.2.2 47 = .inr (0, 9, gno) := h (47, _) (List.mem_of_getElem? (i := 7) rfl)
theorem c_48 {V : gV} (h : gModBL V) : 48 ∈ V.1 ∧ V.2.2 48 = .inr (1, 6, gno) := h (48, _) (List.mem_of_getElem? (i := 8) rfl)
theorem c_49 {V : gV} (h : gModBL V) : 49 ∈ V.1 ∧ V.2.2 49 = .inr (1, 6, gno) := h (49, _) (List.mem_of_getElem? (i := 9) rfl)
theorem c_50 {V : gV} (h : gModBL V) : 50 ∈ V.1 ∧ V.2.2 50 = .inr (0, 6, gno) := h (50, _) (List.mem_of_getElem? (i := 10) rfl)
theorem c_51 {V : gV} (h : gModBL V) : 51 ∈ V.1 ∧ V.2.2 51 = .inr (0, 6, gno) := h (51, _) (List.mem_of_getElem? (i := 11) rfl)
def gLsCO (V : gV) : List (Nat × gD) := [(60, .inl (1, [.inl 0, .inl 0, .inl 0, .inr (some (V.2.1 61)), .inr (some (V.2.1 62)), .inl 0, .inl 0, .inl 0, .inl 0])), (61, .inr (0, 18, gno)), (62, .inr (0, 6, gno))]
def gModCO (V : gV) : Prop := ∀ q ∈ gLsCO  V, q.1 ∈ V.1 ∧ V.2.2 q.1 = q.2
theorem c_60 {V : gV} (h : gModCO V) : 60 ∈ V.1 ∧ V.2.2 60 = .inl (1, [.inl 0, .inl 0, .inl 0, .inr (some (V.2.1 61)), .inr (some (V.2.1 62)), .inl 0, .inl 0, .inl 0, .inl 0]) := h (60, _) (List.mem_of_getElem? (i := 0) rfl)
theorem c_61 {V : gV} (h : gModCO V) : 61 ∈ V.1 ∧ V.2.2 61 = .inr (0, 18, gno) := h (61, _) (List.mem_of_getElem? (i := 1) rfl)
theorem c_62 {V : gV} (h : gModCO V) : 62 ∈ V.1 ∧ V.2.2 62 = .inr (0, 6, gno) := h (62, _) (List.mem_of_getElem? (i := 2) rfl)
def gLsRG (room : Nat) (V : gV) : List (Nat × gD) := [(70, .inl (5, [.inl 0, .inr (some (V.2.1 10)), .inr (some (V.2.1 71)), .inr (some (V.2.1 72)), .inr (some (V.2.1 73)), .inr (some (V.2.1 74)), .inr (some (V.2.1 75)), .inr (some (V.2.1 78)), .inr (some (V.2.1 81)), .inl 0, .inl 0, .inl 0, .inl 0, .inl 0])), (71, .inr (0, 10, gno)), (72, .inr (0, room, gno)), (73, .inr (0, room, gno)), (74, .inr (0, room, gno)), (75, .inl (6, [.inr (some (V.2.1 76)), .inr (some (V.2.1 77))])), (76, .inr (0, (room + 1), gno)), (77, .inr (0, room, gno)), (78, .inl (6, [.inr (some (V.2.1 79)), .inr (some (V.2.1 80))])), (79, .inr (0, (room + 1), gno)), (80, .inr (0, room, gno)), (81, .inr (5, 4, gfam V.2.1 82 4)), (82, .inl (7, [.inr (some (V.2.1 86)), .inr (some (V.2.1 90)), .inl 0])), (83, .inl (7, [.inr (some (V.2.1 87)), .inr (some (V.2.1 91)), .inl 0])), (84, .inl (7, [.inr (some (V.2.1 88)), .inr (some (V.2.1 92)), .inl 0])), (85, .inl (7, [.inr (some (V.2.1 89)), .inr (some (V.2.1 93)), .inl 0])), (86, .inr (1, room, gno)), (87, .inr (1, room, gno)), (88, .inr (1, room, gno)), (89, .inr (1, room, gno)), (90, .inr (0, room, gno)), (91, .inr (0, room, gno)), (92, .inr (0, room, gno)), (93, .inr (0, room, gno))]
def gModRG (room : Nat) (V : gV) : Prop := ∀ q ∈ gLsRG room V, q.1 ∈ V.1 ∧ V.2.2 q.1 = q.2
theorem c_70 {room : Nat} {V : gV} (h : gModRG room V) : 70 ∈ V.1 ∧ V.2.2 70 = .inl (5, [.inl 0, .inr (some (V.2.1 10)), .inr (some (V.2.1 71)), .inr (some (V.2.1 72)), .inr (some (V.2.1 73)), .inr (some (V.2.1 74)), .inr (some (V.2.1 75)), .inr (some (V.2.1 78)), .inr (some (V.2.1 81)), .inl 0, .inl 0, .inl 0, .inl 0, .inl 0]) := h (70, _) (List.mem_of_getElem? (i := 0) rfl)
theorem c_71 {room : Nat} {V : gV} (h : gModRG room V) : 71 ∈ V.1 ∧ V.2.2 71 = .inr (0, 10, gno) := h (71, _) (List.mem_of_getElem? (i := 1) rfl)
theorem c_72 {room : Nat} {V : gV} (h : gModRG room V) : 72 ∈ V.1 ∧ V.2.2 72 = .inr (0, room, gno) := h (72, _) (List.mem_of_getElem? (i := 2) rfl)
theorem c_73 {room : Nat} {V : gV} (h : gModRG room V) : 73 ∈ V.1 ∧ V.2.2 73 = .inr (0, room, gno) := h (73, _) (List.mem_of_getElem? (i := 3) rfl)
theorem c_74 {room : Nat} {V : gV} (h : gModRG room V) : 74 ∈ V.1 ∧ V.2.2 74 = .inr (0, room, gno) := h (74, _) (List.mem_of_getElem? (i := 4) rfl)
theorem c_75 {room : Nat} {V : gV} (h : gModRG room V) : 75 ∈ V.1 ∧ V.2.2 75 = .inl (6, [.inr (some (V.2.1 76)), .inr (some (V.2.1 77))]) := h (75, _) (List.mem_of_getElem? (i := 5) rfl)
theorem c_76 {room : Nat} {V : gV} (h : gModRG room V) : 76 ∈ V.1 ∧ V.2.2 76 = .inr (0, (room + 1), gno) := h (76, _) (List.mem_of_getElem? (i := 6) rfl)
theorem c_77 {room : Nat} {V : gV} (h : gModRG room V) : 77 ∈ V.1 ∧ V.2.2 77 = .inr (0, room, gno) := h (77, _) (List.mem_of_getElem? (i := 7) rfl)
theorem c_78 {room : Nat} {V : gV} (h : gModRG room V) : 78 ∈ V.1 ∧ V.2.2 78 = .inl (6, [.inr (some (V.2.1 79)), .inr (some (V.2.1 80))]) := h (78, _) (List.mem_of_getElem? (i := 8) rfl)
theorem c_79 {room : Nat} {V : gV} (h : gModRG room V) : 79 ∈ V.1 ∧ V.2.2 79 = .inr (0, (room + 1), gno) := h (79, _) (List.mem_of_getElem? (i := 9) rfl)
theorem c_80 {room : Nat} {V : gV} (h : gModRG room V) : 80 ∈ V.1 ∧ V.2.2 80 = .inr (0, room, gno) := h (80, _) (List.mem_of_getElem? (i := 10) rfl)
theorem c_81 {room : Nat} {V : gV} (h : gModRG room V) : 81 ∈ V.1 ∧ V.2.2 81 = .inr (5, 4, gfam V.2.1 82 4) := h (81, _) (List.mem_of_getElem? (i := 11) rfl)
theorem c_82 {room : Nat} {V : gV} (h : gModRG room V) : 82 ∈ V.1 ∧ V.2.2 82 = .inl (7, [.inr (some (V.2.1 86)), .inr (some (V.2.1 90)), .inl 0]) := h (82, _) (List.mem_of_getElem? (i := 12) rfl)
theorem c_83 {room : Nat} {V : gV} (h : gModRG room V) : 83 ∈ V.1 ∧ V.2.2 83 = .inl (7, [.inr (some (V.2.1 87)), .inr (some (V.2.1 91)), .inl 0]) := h (83, _) (List.mem_of_getElem? (i := 13) rfl)
theorem c_84 {room : Nat} {V : gV} (h : gModRG room V) : 84 ∈ V.1 ∧ V.2.2 84 = .inl (7, [.inr (some (V.2.1 88)), .inr (some (V.2.1 92)), .inl 0]) := h (84, _) (List.mem_of_getElem? (i := 14) rfl)
theorem c_85 {room : Nat} {V : gV} (h : gModRG room V) : 85 ∈ V.1 ∧ V.2.2 85 = .inl (7, [.inr (some (V.2.1 89)), .inr (some (V.2.1 93)), .inl 0]) := h (85, _) (List.mem_of_getElem? (i := 15) rfl)
theorem c_86 {room : Nat} {V : gV} (h : gModRG room V) : 86 ∈ V.1 ∧ V.2.2 86 = .inr (1, room, gno) := h (86, _) (List.mem_of_getElem? (i := 16) rfl)
theorem c_87 {room : Nat} {V : gV} (h : gModRG room V) : 87 ∈ V.1 ∧ V.2.2 87 = .inr (1, room, gno) := h (87, _) (List.mem_of_getElem? (i := 17) rfl)
theorem c_88 {room : Nat} {V : gV} (h : gModRG room V) : 88 ∈ V.1 ∧ V.2.2 88 = .inr (1, room, gno) := h (88, _) (List.mem_of_getElem? (i := 18) rfl)
theorem c_89 {room : Nat} {V : gV} (h : gModRG room V) : 89 ∈ V.1 ∧ V.2.2 89 = .inr (1, room, gno) := h (89, _) (List.mem_of_getElem? (i := 19) rfl)
theorem c_90 {room : Nat} {V : gV} (h : gModRG room V) : 90 ∈ V.1 ∧ V.2.2 90 = .inr (0, room, gno) := h (90, _) (List.mem_of_getElem? (i := 20) rfl)
theorem c_91 {room : Nat} {V : gV} (h : gModRG room V) : 91 ∈ V.1 ∧ V.2.2 91 = .inr (0, room, gno) := h (91, _) (List.mem_of_getElem? (i := 21) rfl)
theorem c_92 {room : Nat} {V : gV} (h : gModRG room V) : 92 ∈ V.1 ∧ V.2.2 92 = .inr (0, room, gno) := h (92, _) (List.mem_of_getElem? (i := 22) rfl)
theorem c_93 {room : Nat} {V : gV} (h : gModRG room V) : 93 ∈ V.1 ∧ V.2.2 93 = .inr (0, room, gno) := h (93, _) (List.mem_of_getElem? (i := 23) rfl)
def gLsCV (V : gV) : List (Nat × gD) := [(94, .inl (2, [.inr (some (V.2.1 20)), .inr (some (V.2.1 95)), .inr (some (V.2.1 96)), .inr (some (V.2.1 97)), .inr (some (V.2.1 98)), .inl 0, .inl 0, .inl 0, .inl 0, .inl 0])), (95, .inr (1, 16384, gno)), (96, .inr (1, 16384, gno)), (97, .inr (0, 64, gno)), (98, .inr (0, 64, gno))]
def gModCV (V : gV) : Prop := ∀ q ∈ gLsCV  V, q.1 ∈ V.1 ∧ V.2.2 q.1 = q.2
theorem c_94 {V : gV} (h : gModCV V) : 94 ∈ V.1 ∧ V.2.2 94 = .inl (2, [.inr (some (V.2.1 20)), .inr (some (V.2.1 95)), .inr (some (V.2.1 96)), .inr (some (V.2.1 97)), .inr (some (V.2.1 98)), .inl 0, .inl 0, .inl 0, .inl 0, .inl 0]) := h (94, _) (List.mem_of_getElem? (i := 0) rfl)
theorem c_95 {V : gV} (h : gModCV V) : 95 ∈ V.1 ∧ V.2.2 95 = .inr (1, 16384, gno) := h (95, _) (List.mem_of_getElem? (i := 1) rfl)
theorem c_96 {V : gV} (h : gModCV V) : 96 ∈ V.1 ∧ V.2.2 96 = .inr (1, 16384, gno) := h (96, _) (List.mem_of_getElem? (i := 2) rfl)
theorem c_97 {V : gV} (h : gModCV V) : 97 ∈ V.1 ∧ V.2.2 97 = .inr (0, 64, gno) := h (97, _) (List.mem_of_getElem? (i := 3) rfl)
theorem c_98 {V : gV} (h : gModCV V) : 98 ∈ V.1 ∧ V.2.2 98 = .inr (0, 64, gno) := h (98, _) (List.mem_of_getElem? (i := 4) rfl)
def gLsGR (V : gV) : List (Nat × gD) := [(99, .inl (3, [.inr (some (V.2.1 40)), .inl 0, .inl 1, .inl 1, .inr (some (V.2.1 102)), .inr (some (V.2.1 103))])), (102, .inr (1, 21, gno)), (103, .inr (1, 21, gno))]
def gModGR (V : gV) : Prop := ∀ q ∈ gLsGR  V, q.1 ∈ V.1 ∧ V.2.2 q.1 = q.2
theorem c_99 {V : gV} (h : gModGR V) : 99 ∈ V.1 ∧ V.2.2 99 = .inl (3, [.inr (some (V.2.1 40)), .inl 0, .inl 1, .inl 1, .inr (some (V.2.1 102)), .inr (some (V.2.1 103))]) := h (99, _) (List.mem_of_getElem? (i := 0) rfl)
theorem c_102 {V : gV} (h : gModGR V) : 102 ∈ V.1 ∧ V.2.2 102 = .inr (1, 21, gno) := h (102, _) (List.mem_of_getElem? (i := 1) rfl)
theorem c_103 {V : gV} (h : gModGR V) : 103 ∈ V.1 ∧ V.2.2 103 = .inr (1, 21, gno) := h (103, _) (List.mem_of_getElem? (i := 2) rfl)
theorem f_23 {V : gV} (h : gModJG V) {j : Nat} (hj : j < 6) : 23 + j ∈ V.1 ∧ V.2.2 (23 + j) = .inr (0, 160, gno) := by
  rcases (show j = 0 ∨ j = 1 ∨ j = 2 ∨ j = 3 ∨ j = 4 ∨ j = 5 by omega) with rfl | rfl | rfl | rfl | rfl | rfl
  · exact c_23 h
  · exact c_24 h
  · exact c_25 h
  · exact c_26 h
  · exact c_27 h
  · exact c_28 h
theorem f_30 {V : gV} (h : gModJG V) {j : Nat} (hj : j < 6) : 30 + j ∈ V.1 ∧ V.2.2 (30 + j) = .inr (0, 20, gno) := by
  rcases (show j = 0 ∨ j = 1 ∨ j = 2 ∨ j = 3 ∨ j = 4 ∨ j = 5 by omega) with rfl | rfl | rfl | rfl | rfl | rfl
  · exact c_30 h
  · exact c_31 h
  · exact c_32 h
  · exact c_33 h
  · exact c_34 h
  · exact c_35 h
theorem f_42 {V : gV} (h : gModBL V) {j : Nat} (hj : j < 6) : 42 + j ∈ V.1 ∧ V.2.2 (42 + j) = .inr (0, 9, gno) := by
  rcases (show j = 0 ∨ j = 1 ∨ j = 2 ∨ j = 3 ∨ j = 4 ∨ j = 5 by omega) with rfl | rfl | rfl | rfl | rfl | rfl
  · exact c_42 h
  · exact c_43 h
  · exact c_44 h
  · exact c_45 h
  · exact c_46 h
  · exact c_47 h
theorem f_86 {room : Nat} {V : gV} (h : gModRG room V) {j : Nat} (hj : j < 4) : 86 + j ∈ V.1 ∧ V.2.2 (86 + j) = .inr (1, room, gno) := by
  rcases (show j = 0 ∨ j = 1 ∨ j = 2 ∨ j = 3 by omega) with rfl | rfl | rfl | rfl
  · exact c_86 h
  · exact c_87 h
  · exact c_88 h
  · exact c_89 h
theorem f_90 {room : Nat} {V : gV} (h : gModRG room V) {j : Nat} (hj : j < 4) : 90 + j ∈ V.1 ∧ V.2.2 (90 + j) = .inr (0, room, gno) := by
  rcases (show j = 0 ∨ j = 1 ∨ j = 2 ∨ j = 3 by omega) with rfl | rfl | rfl | rfl
  · exact c_90 h
  · exact c_91 h
  · exact c_92 h
  · exact c_93 h
theorem f_82 {room : Nat} {V : gV} (h : gModRG room V) {j : Nat} (hj : j < 4) : 82 + j ∈ V.1 ∧ V.2.2 (82 + j) = .inl (7, [.inr (some (V.2.1 (86 + j))), .inr (some (V.2.1 (90 + j))), .inl 0]) := by
  rcases (show j = 0 ∨ j = 1 ∨ j = 2 ∨ j = 3 by omega) with rfl | rfl | rfl | rfl
  · exact c_82 h
  · exact c_83 h
  · exact c_84 h
  · exact c_85 h
theorem f_75 {room : Nat} {V : gV} (h : gModRG room V) {b : Nat} (hb : b < 2) : 75 + 3 * b ∈ V.1 ∧ V.2.2 (75 + 3 * b) = .inl (6, [.inr (some (V.2.1 (76 + 3 * b))), .inr (some (V.2.1 (77 + 3 * b)))]) := by
  rcases (show b = 0 ∨ b = 1 by omega) with rfl | rfl
  · exact c_75 h
  · exact c_78 h
theorem f_76 {room : Nat} {V : gV} (h : gModRG room V) {b : Nat} (hb : b < 2) : 76 + 3 * b ∈ V.1 ∧ V.2.2 (76 + 3 * b) = .inr (0, (room + 1), gno) := by
  rcases (show b = 0 ∨ b = 1 by omega) with rfl | rfl
  · exact c_76 h
  · exact c_79 h
theorem f_77 {room : Nat} {V : gV} (h : gModRG room V) {b : Nat} (hb : b < 2) : 77 + 3 * b ∈ V.1 ∧ V.2.2 (77 + 3 * b) = .inr (0, room, gno) := by
  rcases (show b = 0 ∨ b = 1 by omega) with rfl | rfl
  · exact c_77 h
  · exact c_80 h
theorem f_73 {room : Nat} {V : gV} (h : gModRG room V) {b : Nat} (hb : b < 2) : 73 + b ∈ V.1 ∧ V.2.2 (73 + b) = .inr (0, room, gno) := by
  rcases (show b = 0 ∨ b = 1 by omega) with rfl | rfl
  · exact c_73 h
  · exact c_74 h
def gModT (pr pc pg : Option Nat) (V : gV) : Prop := 0 ∈ V.1 ∧ V.2.2 0 = .inl (9, [.inr (some (V.2.1 10)), .inr (some (V.2.1 20)), .inr (some (V.2.1 40)), .inr (some (V.2.1 60)), .inr pr, .inr pc, .inr pg])
theorem c_0 {pr pc pg : Option Nat} {V : gV} (h : gModT pr pc pg V) : 0 ∈ V.1 ∧ V.2.2 0 = .inl (9, [.inr (some (V.2.1 10)), .inr (some (V.2.1 20)), .inr (some (V.2.1 40)), .inr (some (V.2.1 60)), .inr pr, .inr pc, .inr pg]) := h
theorem gJ.topi {X : gX} {V : gV} {cells slots pc : Nat} {lv : List (Nat × Value)} {st : List Value} {I : gI} {J : gL} {x : Int32} (k : ∀ y : Int32, y = x → gJ X V cells slots pc lv (.int y :: st) I J) : gJ X V cells slots pc lv (.int x :: st) I J := k x rfl
theorem gJ.topl {X : gX} {V : gV} {cells slots pc : Nat} {lv : List (Nat × Value)} {st : List Value} {I : gI} {J : gL} {x : Int64} (k : ∀ y : Int64, y = x → gJ X V cells slots pc lv (.long y :: st) I J) : gJ X V cells slots pc lv (.long x :: st) I J := k x rfl
theorem gJ.nmI {X : gX} {V : gV} {cells slots pc : Nat} {lv : List (Nat × Value)} {st : List Value} {I : gI} {J : gL} (k : ∀ I1 : gI, I1 = I → gJ X V cells slots pc lv st I1 J) : gJ X V cells slots pc lv st I J := k I rfl
theorem gJ.nmJ {X : gX} {V : gV} {cells slots pc : Nat} {lv : List (Nat × Value)} {st : List Value} {I : gI} {J : gL} (k : ∀ J1 : gL, J1 = J → gJ X V cells slots pc lv st I J1) : gJ X V cells slots pc lv st I J := k J rfl

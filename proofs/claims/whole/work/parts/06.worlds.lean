def mw_f (ad : Nat → Nat) (iv : fw_F) : List Value := [.int (iv 0), .int (iv 1), .ref (ad 2), .ref (ad 3), .ref (ad 4), .int (iv 5), .ref (ad 6), .ref (ad 7), .ref (ad 8), .ref (ad 9), .int (iv 10), .int (iv 11), .ref (ad 12), .int (iv 13), .int (iv 14), .ref (ad 15), .int (iv 16), .int (iv 17), .ref (ad 18), .int (iv 19), .int (iv 20), .ref (ad 21), .ref (ad 22), .ref (ad 23), .ref (ad 24), .ref (ad 25), .ref (ad 26), .int (iv 27), .int (iv 28), .ref (ad 29), .ref (ad 30), .ref (ad 31), .ref (ad 32)]
def mw (G : fw_G) (mh : Nat) (ad : Nat → Nat) : fw_V := fun iv ar => [(mh, .inr (10, mw_f ad iv)), (ad 2, .inl (G.2.1.1, 4, .inl (ar 2))), (ad 3, .inl (G.2.1.1, 4, .inl (ar 3))), (ad 4, .inl (G.2.1.1, 320, .inl (ar 4))), (ad 6, .inl (G.2.1.1, 6, .inl (ar 6))), (ad 7, .inl (G.2.1.1, 6, .inl (ar 7))), (ad 8, .inl (G.2.1.1, 6, .inl (ar 8))), (ad 9, .inl (G.2.1.1, 6, .inl (ar 9))), (ad 12, .inl (G.2.1.1, 15, .inl (ar 12))), (ad 15, .inl (G.2.1.1, 15, .inl (ar 15))), (ad 18, .inl (G.2.1.1, 36, .inl (ar 18))), (ad 21, .inl (G.2.1.1, 36, .inl (ar 21))), (ad 22, .inl (G.2.1.1, 36, .inl (ar 22))), (ad 23, .inl (G.2.1.1, 36, .inl (ar 23))), (ad 24, .inl (G.2.1.1, 6, .inl (ar 24))), (ad 25, .inl (G.2.1.1, 6, .inl (ar 25))), (ad 26, .inl (G.2.1.1, 6, .inl (ar 26))), (ad 29, .inl (G.2.1.1, 10, .inl (ar 29))), (ad 30, .inl (G.2.1.1, 10, .inl (ar 30))), (ad 31, .inl (G.2.1.2.1, 576, .inl (ar 31))), (ad 32, .inl (G.2.1.1, 4, .inl (ar 32)))]
theorem mw_o {G : fw_G} {mh : Nat} {ad : Nat → Nat} {iv : fw_F} {ar : fw_R} : (mw G mh ad iv ar)[0]? = some (mh, .inr (10, mw_f ad iv)) := rfl
theorem mw_a2 {G : fw_G} {mh : Nat} {ad : Nat → Nat} {iv : fw_F} {ar : fw_R} : (mw G mh ad iv ar)[1]? = some (ad 2, .inl (G.2.1.1, 4, .inl (ar 2))) := rfl
theorem mw_s2 {G : fw_G} {mh : Nat} {ad : Nat → Nat} {iv : fw_F} {ar : fw_R} {g : Nat → Int32} : (mw G mh ad iv ar).set 1 (ad 2, .inl (G.2.1.1, 4, .inl g)) = mw G mh ad iv (va_up ar 2 g) := rfl
theorem mw_a3 {G : fw_G} {mh : Nat} {ad : Nat → Nat} {iv : fw_F} {ar : fw_R} : (mw G mh ad iv ar)[2]? = some (ad 3, .inl (G.2.1.1, 4, .inl (ar 3))) := rfl
theorem mw_s3 {G : fw_G} {mh : Nat} {ad : Nat → Nat} {iv : fw_F} {ar : fw_R} {g : Nat → Int32} : (mw G mh ad iv ar).set 2 (ad 3, .inl (G.2.1.1, 4, .inl g)) = mw G mh ad iv (va_up ar 3 g) := rfl
theorem mw_a4 {G : fw_G} {mh : Nat} {ad : Nat → Nat} {iv : fw_F} {ar : fw_R} : (mw G mh ad iv ar)[3]? = some (ad 4, .inl (G.2.1.1, 320, .inl (ar 4))) := rfl
theorem mw_s4 {G : fw_G} {mh : Nat} {ad : Nat → Nat} {iv : fw_F} {ar : fw_R} {g : Nat → Int32} : (mw G mh ad iv ar).set 3 (ad 4, .inl (G.2.1.1, 320, .inl g)) = mw G mh ad iv (va_up ar 4 g) := rfl
theorem mw_a6 {G : fw_G} {mh : Nat} {ad : Nat → Nat} {iv : fw_F} {ar : fw_R} : (mw G mh ad iv ar)[4]? = some (ad 6, .inl (G.2.1.1, 6, .inl (ar 6))) := rfl
theorem mw_s6 {G : fw_G} {mh : Nat} {ad : Nat → Nat} {iv : fw_F} {ar : fw_R} {g : Nat → Int32} : (mw G mh ad iv ar).set 4 (ad 6, .inl (G.2.1.1, 6, .inl g)) = mw G mh ad iv (va_up ar 6 g) := rfl
theorem mw_a7 {G : fw_G} {mh : Nat} {ad : Nat → Nat} {iv : fw_F} {ar : fw_R} : (mw G mh ad iv ar)[5]? = some (ad 7, .inl (G.2.1.1, 6, .inl (ar 7))) := rfl
theorem mw_s7 {G : fw_G} {mh : Nat} {ad : Nat → Nat} {iv : fw_F} {ar : fw_R} {g : Nat → Int32} : (mw G mh ad iv ar).set 5 (ad 7, .inl (G.2.1.1, 6, .inl g)) = mw G mh ad iv (va_up ar 7 g) := rfl
theorem mw_a8 {G : fw_G} {mh : Nat} {ad : Nat → Nat} {iv : fw_F} {ar : fw_R} : (mw G mh ad iv ar)[6]? = some (ad 8, .inl (G.2.1.1, 6, .inl (ar 8))) := rfl
theorem mw_s8 {G : fw_G} {mh : Nat} {ad : Nat → Nat} {iv : fw_F} {ar : fw_R} {g : Nat → Int32} : (mw G mh ad iv ar).set 6 (ad 8, .inl (G.2.1.1, 6, .inl g)) = mw G mh ad iv (va_up ar 8 g) := rfl
theorem mw_a9 {G : fw_G} {mh : Nat} {ad : Nat → Nat} {iv : fw_F} {ar : fw_R} : (mw G mh ad iv ar)[7]? = some (ad 9, .inl (G.2.1.1, 6, .inl (ar 9))) := rfl
theorem mw_s9 {G : fw_G} {mh : Nat} {ad : Nat → Nat} {iv : fw_F} {ar : fw_R} {g : Nat → Int32} : (mw G mh ad iv ar).set 7 (ad 9, .inl (G.2.1.1, 6, .inl g)) = mw G mh ad iv (va_up ar 9 g) := rfl
theorem mw_a12 {G : fw_G} {mh : Nat} {ad : Nat → Nat} {iv : fw_F} {ar : fw_R} : (mw G mh ad iv ar)[8]? = some (ad 12, .inl (G.2.1.1, 15, .inl (ar 12))) := rfl
theorem mw_s12 {G : fw_G} {mh : Nat} {ad : Nat → Nat} {iv : fw_F} {ar : fw_R} {g : Nat → Int32} : (mw G mh ad iv ar).set 8 (ad 12, .inl (G.2.1.1, 15, .inl g)) = mw G mh ad iv (va_up ar 12 g) := rfl
theorem mw_a15 {G : fw_G} {mh : Nat} {ad : Nat → Nat} {iv : fw_F} {ar : fw_R} : (mw G mh ad iv ar)[9]? = some (ad 15, .inl (G.2.1.1, 15, .inl (ar 15))) := rfl
theorem mw_s15 {G : fw_G} {mh : Nat} {ad : Nat → Nat} {iv : fw_F} {ar : fw_R} {g : Nat → Int32} : (mw G mh ad iv ar).set 9 (ad 15, .inl (G.2.1.1, 15, .inl g)) = mw G mh ad iv (va_up ar 15 g) := rfl
theorem mw_a18 {G : fw_G} {mh : Nat} {ad : Nat → Nat} {iv : fw_F} {ar : fw_R} : (mw G mh ad iv ar)[10]? = some (ad 18, .inl (G.2.1.1, 36, .inl (ar 18))) := rfl
theorem mw_s18 {G : fw_G} {mh : Nat} {ad : Nat → Nat} {iv : fw_F} {ar : fw_R} {g : Nat → Int32} : (mw G mh ad iv ar).set 10 (ad 18, .inl (G.2.1.1, 36, .inl g)) = mw G mh ad iv (va_up ar 18 g) := rfl
theorem mw_a21 {G : fw_G} {mh : Nat} {ad : Nat → Nat} {iv : fw_F} {ar : fw_R} : (mw G mh ad iv ar)[11]? = some (ad 21, .inl (G.2.1.1, 36, .inl (ar 21))) := rfl
theorem mw_s21 {G : fw_G} {mh : Nat} {ad : Nat → Nat} {iv : fw_F} {ar : fw_R} {g : Nat → Int32} : (mw G mh ad iv ar).set 11 (ad 21, .inl (G.2.1.1, 36, .inl g)) = mw G mh ad iv (va_up ar 21 g) := rfl
theorem mw_a22 {G : fw_G} {mh : Nat} {ad : Nat → Nat} {iv : fw_F} {ar : fw_R} : (mw G mh ad iv ar)[12]? = some (ad 22, .inl (G.2.1.1, 36, .inl (ar 22))) := rfl
theorem mw_s22 {G : fw_G} {mh : Nat} {ad : Nat → Nat} {iv : fw_F} {ar : fw_R} {g : Nat → Int32} : (mw G mh ad iv ar).set 12 (ad 22, .inl (G.2.1.1, 36, .inl g)) = mw G mh ad iv (va_up ar 22 g) := rfl
theorem mw_a23 {G : fw_G} {mh : Nat} {ad : Nat → Nat} {iv : fw_F} {ar : fw_R} : (mw G mh ad iv ar)[13]? = some (ad 23, .inl (G.2.1.1, 36, .inl (ar 23))) := rfl
theorem mw_s23 {G : fw_G} {mh : Nat} {ad : Nat → Nat} {iv : fw_F} {ar : fw_R} {g : Nat → Int32} : (mw G mh ad iv ar).set 13 (ad 23, .inl (G.2.1.1, 36, .inl g)) = mw G mh ad iv (va_up ar 23 g) := rfl
theorem mw_a24 {G : fw_G} {mh : Nat} {ad : Nat → Nat} {iv : fw_F} {ar : fw_R} : (mw G mh ad iv ar)[14]? = some (ad 24, .inl (G.2.1.1, 6, .inl (ar 24))) := rfl
theorem mw_s24 {G : fw_G} {mh : Nat} {ad : Nat → Nat} {iv : fw_F} {ar : fw_R} {g : Nat → Int32} : (mw G mh ad iv ar).set 14 (ad 24, .inl (G.2.1.1, 6, .inl g)) = mw G mh ad iv (va_up ar 24 g) := rfl
theorem mw_a25 {G : fw_G} {mh : Nat} {ad : Nat → Nat} {iv : fw_F} {ar : fw_R} : (mw G mh ad iv ar)[15]? = some (ad 25, .inl (G.2.1.1, 6, .inl (ar 25))) := rfl
theorem mw_s25 {G : fw_G} {mh : Nat} {ad : Nat → Nat} {iv : fw_F} {ar : fw_R} {g : Nat → Int32} : (mw G mh ad iv ar).set 15 (ad 25, .inl (G.2.1.1, 6, .inl g)) = mw G mh ad iv (va_up ar 25 g) := rfl
theorem mw_a26 {G : fw_G} {mh : Nat} {ad : Nat → Nat} {iv : fw_F} {ar : fw_R} : (mw G mh ad iv ar)[16]? = some (ad 26, .inl (G.2.1.1, 6, .inl (ar 26))) := rfl
theorem mw_s26 {G : fw_G} {mh : Nat} {ad : Nat → Nat} {iv : fw_F} {ar : fw_R} {g : Nat → Int32} : (mw G mh ad iv ar).set 16 (ad 26, .inl (G.2.1.1, 6, .inl g)) = mw G mh ad iv (va_up ar 26 g) := rfl
theorem mw_a29 {G : fw_G} {mh : Nat} {ad : Nat → Nat} {iv : fw_F} {ar : fw_R} : (mw G mh ad iv ar)[17]? = some (ad 29, .inl (G.2.1.1, 10, .inl (ar 29))) := rfl
theorem mw_s29 {G : fw_G} {mh : Nat} {ad : Nat → Nat} {iv : fw_F} {ar : fw_R} {g : Nat → Int32} : (mw G mh ad iv ar).set 17 (ad 29, .inl (G.2.1.1, 10, .inl g)) = mw G mh ad iv (va_up ar 29 g) := rfl
theorem mw_a30 {G : fw_G} {mh : Nat} {ad : Nat → Nat} {iv : fw_F} {ar : fw_R} : (mw G mh ad iv ar)[18]? = some (ad 30, .inl (G.2.1.1, 10, .inl (ar 30))) := rfl
theorem mw_s30 {G : fw_G} {mh : Nat} {ad : Nat → Nat} {iv : fw_F} {ar : fw_R} {g : Nat → Int32} : (mw G mh ad iv ar).set 18 (ad 30, .inl (G.2.1.1, 10, .inl g)) = mw G mh ad iv (va_up ar 30 g) := rfl
theorem mw_a31 {G : fw_G} {mh : Nat} {ad : Nat → Nat} {iv : fw_F} {ar : fw_R} : (mw G mh ad iv ar)[19]? = some (ad 31, .inl (G.2.1.2.1, 576, .inl (ar 31))) := rfl
theorem mw_s31 {G : fw_G} {mh : Nat} {ad : Nat → Nat} {iv : fw_F} {ar : fw_R} {g : Nat → Int32} : (mw G mh ad iv ar).set 19 (ad 31, .inl (G.2.1.2.1, 576, .inl g)) = mw G mh ad iv (va_up ar 31 g) := rfl
theorem mw_a32 {G : fw_G} {mh : Nat} {ad : Nat → Nat} {iv : fw_F} {ar : fw_R} : (mw G mh ad iv ar)[20]? = some (ad 32, .inl (G.2.1.1, 4, .inl (ar 32))) := rfl
theorem mw_s32 {G : fw_G} {mh : Nat} {ad : Nat → Nat} {iv : fw_F} {ar : fw_R} {g : Nat → Int32} : (mw G mh ad iv ar).set 20 (ad 32, .inl (G.2.1.1, 4, .inl g)) = mw G mh ad iv (va_up ar 32 g) := rfl
theorem mw_p0 {G : fw_G} {mh : Nat} {ad : Nat → Nat} {iv : fw_F} {ar : fw_R} {v : Int32} : (mw G mh ad iv ar).set 0 (mh, .inr (10, (mw_f ad iv).set 0 (.int v))) = mw G mh ad (va_up iv 0 v) ar := rfl
theorem mw_p1 {G : fw_G} {mh : Nat} {ad : Nat → Nat} {iv : fw_F} {ar : fw_R} {v : Int32} : (mw G mh ad iv ar).set 0 (mh, .inr (10, (mw_f ad iv).set 1 (.int v))) = mw G mh ad (va_up iv 1 v) ar := rfl
theorem mw_p5 {G : fw_G} {mh : Nat} {ad : Nat → Nat} {iv : fw_F} {ar : fw_R} {v : Int32} : (mw G mh ad iv ar).set 0 (mh, .inr (10, (mw_f ad iv).set 5 (.int v))) = mw G mh ad (va_up iv 5 v) ar := rfl
theorem mw_p10 {G : fw_G} {mh : Nat} {ad : Nat → Nat} {iv : fw_F} {ar : fw_R} {v : Int32} : (mw G mh ad iv ar).set 0 (mh, .inr (10, (mw_f ad iv).set 10 (.int v))) = mw G mh ad (va_up iv 10 v) ar := rfl
theorem mw_p11 {G : fw_G} {mh : Nat} {ad : Nat → Nat} {iv : fw_F} {ar : fw_R} {v : Int32} : (mw G mh ad iv ar).set 0 (mh, .inr (10, (mw_f ad iv).set 11 (.int v))) = mw G mh ad (va_up iv 11 v) ar := rfl
theorem mw_p13 {G : fw_G} {mh : Nat} {ad : Nat → Nat} {iv : fw_F} {ar : fw_R} {v : Int32} : (mw G mh ad iv ar).set 0 (mh, .inr (10, (mw_f ad iv).set 13 (.int v))) = mw G mh ad (va_up iv 13 v) ar := rfl
theorem mw_p14 {G : fw_G} {mh : Nat} {ad : Nat → Nat} {iv : fw_F} {ar : fw_R} {v : Int32} : (mw G mh ad iv ar).set 0 (mh, .inr (10, (mw_f ad iv).set 14 (.int v))) = mw G mh ad (va_up iv 14 v) ar := rfl
theorem mw_p16 {G : fw_G} {mh : Nat} {ad : Nat → Nat} {iv : fw_F} {ar : fw_R} {v : Int32} : (mw G mh ad iv ar).set 0 (mh, .inr (10, (mw_f ad iv).set 16 (.int v))) = mw G mh ad (va_up iv 16 v) ar := rfl
theorem mw_p17 {G : fw_G} {mh : Nat} {ad : Nat → Nat} {iv : fw_F} {ar : fw_R} {v : Int32} : (mw G mh ad iv ar).set 0 (mh, .inr (10, (mw_f ad iv).set 17 (.int v))) = mw G mh ad (va_up iv 17 v) ar := rfl
theorem mw_p19 {G : fw_G} {mh : Nat} {ad : Nat → Nat} {iv : fw_F} {ar : fw_R} {v : Int32} : (mw G mh ad iv ar).set 0 (mh, .inr (10, (mw_f ad iv).set 19 (.int v))) = mw G mh ad (va_up iv 19 v) ar := rfl
theorem mw_p20 {G : fw_G} {mh : Nat} {ad : Nat → Nat} {iv : fw_F} {ar : fw_R} {v : Int32} : (mw G mh ad iv ar).set 0 (mh, .inr (10, (mw_f ad iv).set 20 (.int v))) = mw G mh ad (va_up iv 20 v) ar := rfl
theorem mw_p27 {G : fw_G} {mh : Nat} {ad : Nat → Nat} {iv : fw_F} {ar : fw_R} {v : Int32} : (mw G mh ad iv ar).set 0 (mh, .inr (10, (mw_f ad iv).set 27 (.int v))) = mw G mh ad (va_up iv 27 v) ar := rfl
theorem mw_p28 {G : fw_G} {mh : Nat} {ad : Nat → Nat} {iv : fw_F} {ar : fw_R} {v : Int32} : (mw G mh ad iv ar).set 0 (mh, .inr (10, (mw_f ad iv).set 28 (.int v))) = mw G mh ad (va_up iv 28 v) ar := rfl
/-- the knives: how many, of what kind, their numbers, their rows -/
abbrev kw_T : Type := Nat × (Nat → Nat) × (Nat → Nat → Int32) × (Nat → Nat → Int32)
def kw_c (k : Nat) : Nat := if k = 0 then 3 else if k = 1 then 2 else 8
def kw_kf (ad : Nat → Nat) (kt : kw_T) (i : Nat) : List Value := [.int (kt.2.2.1 i 0), .int (kt.2.2.1 i 1), .int (kt.2.2.1 i 2), .int (kt.2.2.1 i 3), .int (kt.2.2.1 i 4), .ref (ad (29 + 2 * i))]
def kw_k (G : fw_G) (ad : Nat → Nat) (kt : kw_T) (i : Nat) : va_W := [(ad (28 + 2 * i), .inr (kw_c (kt.2.1 i), kw_kf ad kt i)), (ad (29 + 2 * i), .inl (G.2.1.1, 216, .inl (kt.2.2.2 i)))]
def kw_q (ad : Nat → Nat) (n : Nat) : Nat → Option Nat := fun j => if j < n then some (ad (28 + 2 * j)) else none
def kw (G : fw_G) (ad : Nat → Nat) (kt : kw_T) : fw_V := fun iv ar => [(ad 0, .inr (9, [.ref (ad 1), .int (iv 0), .ref (ad 2), .ref (ad 4), .ref (ad 6), .ref (ad 10), .ref (ad 16), .ref (ad 25), .ref (ad 26), .ref (ad 27), .int (iv 1)])), (ad 1, .inl (G.2.1.2.2.1, 6, .inr (.inr (.inr (.inr (kw_q ad kt.1)))))), (ad 2, .inr (1, [.ref (ad 3), .int (iv 2), .int (iv 3)])), (ad 3, .inl (G.2.1.1, 15, .inl (ar 3))), (ad 4, .inr (0, [.ref (ad 5), .int (iv 4), .int (iv 5)])), (ad 5, .inl (G.2.1.1, 36, .inl (ar 5))), (ad 6, .inr (5, [.ref (ad 7), .ref (ad 8), .ref (ad 9), .int (iv 6)])), (ad 7, .inl (G.2.1.1, 6, .inl (ar 7))), (ad 8, .inl (G.2.1.1, 36, .inl (ar 8))), (ad 9, .inl (G.2.1.1, 64, .inl (ar 9))), (ad 10, .inr (4, [.ref (ad 11), .ref (ad 12), .int (iv 7), .ref (ad 13), .ref (ad 14), .ref (ad 15), .int (iv 8)])), (ad 11, .inl (G.2.1.1, 10, .inl (ar 11))), (ad 12, .inl (G.2.1.1, 10, .inl (ar 12))), (ad 13, .inl (G.2.1.1, 576, .inl (ar 13))), (ad 14, .inl (G.2.1.1, 576, .inl (ar 14))), (ad 15, .inl (G.2.1.1, 4, .inl (ar 15))), (ad 16, .inl (G.2.1.2.2.2, 4, .inr (.inr (.inr (.inr (fun j => some (ad (17 + j)))))))), (ad 17, .inr (6, [.ref (ad 21), .int (iv 9), .int (iv 13), .int (iv 17)])), (ad 18, .inr (6, [.ref (ad 22), .int (iv 10), .int (iv 14), .int (iv 18)])), (ad 19, .inr (6, [.ref (ad 23), .int (iv 11), .int (iv 15), .int (iv 19)])), (ad 20, .inr (6, [.ref (ad 24), .int (iv 12), .int (iv 16), .int (iv 20)])), (ad 21, .inl (G.2.1.1, 80, .inl (ar 21))), (ad 22, .inl (G.2.1.1, 80, .inl (ar 22))), (ad 23, .inl (G.2.1.1, 80, .inl (ar 23))), (ad 24, .inl (G.2.1.1, 80, .inl (ar 24))), (ad 25, .inl (G.2.1.1, 80, .inl (ar 25))), (ad 26, .inl (G.2.1.2.1, 8, .inl (ar 26))), (ad 27, .inr (7, [.int (iv 21)]))] ++ (List.range kt.1).flatMap (kw_k G ad kt)
theorem kw_o9 {G : fw_G} {ad : Nat → Nat} {kt : kw_T} {iv : fw_F} {ar : fw_R} : (kw G ad kt iv ar)[0]? = some (ad 0, .inr (9, [.ref (ad 1), .int (iv 0), .ref (ad 2), .ref (ad 4), .ref (ad 6), .ref (ad 10), .ref (ad 16), .ref (ad 25), .ref (ad 26), .ref (ad 27), .int (iv 1)])) := rfl
theorem kw_p9_knifeCount {G : fw_G} {ad : Nat → Nat} {kt : kw_T} {iv : fw_F} {ar : fw_R} {v : Int32} : (kw G ad kt iv ar).set 0 (ad 0, .inr (9, ([.ref (ad 1), .int (iv 0), .ref (ad 2), .ref (ad 4), .ref (ad 6), .ref (ad 10), .ref (ad 16), .ref (ad 25), .ref (ad 26), .ref (ad 27), .int (iv 1)] : List Value).set 1 (.int v))) = kw G ad kt (va_up iv 0 v) ar := rfl
theorem kw_p9_theFault {G : fw_G} {ad : Nat → Nat} {kt : kw_T} {iv : fw_F} {ar : fw_R} {v : Int32} : (kw G ad kt iv ar).set 0 (ad 0, .inr (9, ([.ref (ad 1), .int (iv 0), .ref (ad 2), .ref (ad 4), .ref (ad 6), .ref (ad 10), .ref (ad 16), .ref (ad 25), .ref (ad 26), .ref (ad 27), .int (iv 1)] : List Value).set 10 (.int v))) = kw G ad kt (va_up iv 1 v) ar := rfl
theorem kw_o1 {G : fw_G} {ad : Nat → Nat} {kt : kw_T} {iv : fw_F} {ar : fw_R} : (kw G ad kt iv ar)[2]? = some (ad 2, .inr (1, [.ref (ad 3), .int (iv 2), .int (iv 3)])) := rfl
theorem kw_p1_told {G : fw_G} {ad : Nat → Nat} {kt : kw_T} {iv : fw_F} {ar : fw_R} {v : Int32} : (kw G ad kt iv ar).set 2 (ad 2, .inr (1, ([.ref (ad 3), .int (iv 2), .int (iv 3)] : List Value).set 1 (.int v))) = kw G ad kt (va_up iv 2 v) ar := rfl
theorem kw_p1_tires {G : fw_G} {ad : Nat → Nat} {kt : kw_T} {iv : fw_F} {ar : fw_R} {v : Int32} : (kw G ad kt iv ar).set 2 (ad 2, .inr (1, ([.ref (ad 3), .int (iv 2), .int (iv 3)] : List Value).set 2 (.int v))) = kw G ad kt (va_up iv 3 v) ar := rfl
theorem kw_o0 {G : fw_G} {ad : Nat → Nat} {kt : kw_T} {iv : fw_F} {ar : fw_R} : (kw G ad kt iv ar)[4]? = some (ad 4, .inr (0, [.ref (ad 5), .int (iv 4), .int (iv 5)])) := rfl
theorem kw_p0_high {G : fw_G} {ad : Nat → Nat} {kt : kw_T} {iv : fw_F} {ar : fw_R} {v : Int32} : (kw G ad kt iv ar).set 4 (ad 4, .inr (0, ([.ref (ad 5), .int (iv 4), .int (iv 5)] : List Value).set 1 (.int v))) = kw G ad kt (va_up iv 4 v) ar := rfl
theorem kw_p0_wide {G : fw_G} {ad : Nat → Nat} {kt : kw_T} {iv : fw_F} {ar : fw_R} {v : Int32} : (kw G ad kt iv ar).set 4 (ad 4, .inr (0, ([.ref (ad 5), .int (iv 4), .int (iv 5)] : List Value).set 2 (.int v))) = kw G ad kt (va_up iv 5 v) ar := rfl
theorem kw_o5 {G : fw_G} {ad : Nat → Nat} {kt : kw_T} {iv : fw_F} {ar : fw_R} : (kw G ad kt iv ar)[6]? = some (ad 6, .inr (5, [.ref (ad 7), .ref (ad 8), .ref (ad 9), .int (iv 6)])) := rfl
theorem kw_p5_size {G : fw_G} {ad : Nat → Nat} {kt : kw_T} {iv : fw_F} {ar : fw_R} {v : Int32} : (kw G ad kt iv ar).set 6 (ad 6, .inr (5, ([.ref (ad 7), .ref (ad 8), .ref (ad 9), .int (iv 6)] : List Value).set 3 (.int v))) = kw G ad kt (va_up iv 6 v) ar := rfl
theorem kw_o4 {G : fw_G} {ad : Nat → Nat} {kt : kw_T} {iv : fw_F} {ar : fw_R} : (kw G ad kt iv ar)[10]? = some (ad 10, .inr (4, [.ref (ad 11), .ref (ad 12), .int (iv 7), .ref (ad 13), .ref (ad 14), .ref (ad 15), .int (iv 8)])) := rfl
theorem kw_p4_count {G : fw_G} {ad : Nat → Nat} {kt : kw_T} {iv : fw_F} {ar : fw_R} {v : Int32} : (kw G ad kt iv ar).set 10 (ad 10, .inr (4, ([.ref (ad 11), .ref (ad 12), .int (iv 7), .ref (ad 13), .ref (ad 14), .ref (ad 15), .int (iv 8)] : List Value).set 2 (.int v))) = kw G ad kt (va_up iv 7 v) ar := rfl
theorem kw_p4_left {G : fw_G} {ad : Nat → Nat} {kt : kw_T} {iv : fw_F} {ar : fw_R} {v : Int32} : (kw G ad kt iv ar).set 10 (ad 10, .inr (4, ([.ref (ad 11), .ref (ad 12), .int (iv 7), .ref (ad 13), .ref (ad 14), .ref (ad 15), .int (iv 8)] : List Value).set 6 (.int v))) = kw G ad kt (va_up iv 8 v) ar := rfl
theorem kw_o7 {G : fw_G} {ad : Nat → Nat} {kt : kw_T} {iv : fw_F} {ar : fw_R} : (kw G ad kt iv ar)[27]? = some (ad 27, .inr (7, [.int (iv 21)])) := rfl
theorem kw_p7_value {G : fw_G} {ad : Nat → Nat} {kt : kw_T} {iv : fw_F} {ar : fw_R} {v : Int32} : (kw G ad kt iv ar).set 27 (ad 27, .inr (7, ([.int (iv 21)] : List Value).set 0 (.int v))) = kw G ad kt (va_up iv 21 v) ar := rfl
theorem kw_a3 {G : fw_G} {ad : Nat → Nat} {kt : kw_T} {iv : fw_F} {ar : fw_R} : (kw G ad kt iv ar)[3]? = some (ad 3, .inl (G.2.1.1, 15, .inl (ar 3))) := rfl
theorem kw_s3 {G : fw_G} {ad : Nat → Nat} {kt : kw_T} {iv : fw_F} {ar : fw_R} {g : Nat → Int32} : (kw G ad kt iv ar).set 3 (ad 3, .inl (G.2.1.1, 15, .inl g)) = kw G ad kt iv (va_up ar 3 g) := rfl
theorem kw_a5 {G : fw_G} {ad : Nat → Nat} {kt : kw_T} {iv : fw_F} {ar : fw_R} : (kw G ad kt iv ar)[5]? = some (ad 5, .inl (G.2.1.1, 36, .inl (ar 5))) := rfl
theorem kw_s5 {G : fw_G} {ad : Nat → Nat} {kt : kw_T} {iv : fw_F} {ar : fw_R} {g : Nat → Int32} : (kw G ad kt iv ar).set 5 (ad 5, .inl (G.2.1.1, 36, .inl g)) = kw G ad kt iv (va_up ar 5 g) := rfl
theorem kw_a7 {G : fw_G} {ad : Nat → Nat} {kt : kw_T} {iv : fw_F} {ar : fw_R} : (kw G ad kt iv ar)[7]? = some (ad 7, .inl (G.2.1.1, 6, .inl (ar 7))) := rfl
theorem kw_s7 {G : fw_G} {ad : Nat → Nat} {kt : kw_T} {iv : fw_F} {ar : fw_R} {g : Nat → Int32} : (kw G ad kt iv ar).set 7 (ad 7, .inl (G.2.1.1, 6, .inl g)) = kw G ad kt iv (va_up ar 7 g) := rfl
theorem kw_a8 {G : fw_G} {ad : Nat → Nat} {kt : kw_T} {iv : fw_F} {ar : fw_R} : (kw G ad kt iv ar)[8]? = some (ad 8, .inl (G.2.1.1, 36, .inl (ar 8))) := rfl
theorem kw_s8 {G : fw_G} {ad : Nat → Nat} {kt : kw_T} {iv : fw_F} {ar : fw_R} {g : Nat → Int32} : (kw G ad kt iv ar).set 8 (ad 8, .inl (G.2.1.1, 36, .inl g)) = kw G ad kt iv (va_up ar 8 g) := rfl
theorem kw_a9 {G : fw_G} {ad : Nat → Nat} {kt : kw_T} {iv : fw_F} {ar : fw_R} : (kw G ad kt iv ar)[9]? = some (ad 9, .inl (G.2.1.1, 64, .inl (ar 9))) := rfl
theorem kw_s9 {G : fw_G} {ad : Nat → Nat} {kt : kw_T} {iv : fw_F} {ar : fw_R} {g : Nat → Int32} : (kw G ad kt iv ar).set 9 (ad 9, .inl (G.2.1.1, 64, .inl g)) = kw G ad kt iv (va_up ar 9 g) := rfl
theorem kw_a11 {G : fw_G} {ad : Nat → Nat} {kt : kw_T} {iv : fw_F} {ar : fw_R} : (kw G ad kt iv ar)[11]? = some (ad 11, .inl (G.2.1.1, 10, .inl (ar 11))) := rfl
theorem kw_s11 {G : fw_G} {ad : Nat → Nat} {kt : kw_T} {iv : fw_F} {ar : fw_R} {g : Nat → Int32} : (kw G ad kt iv ar).set 11 (ad 11, .inl (G.2.1.1, 10, .inl g)) = kw G ad kt iv (va_up ar 11 g) := rfl
theorem kw_a12 {G : fw_G} {ad : Nat → Nat} {kt : kw_T} {iv : fw_F} {ar : fw_R} : (kw G ad kt iv ar)[12]? = some (ad 12, .inl (G.2.1.1, 10, .inl (ar 12))) := rfl
theorem kw_s12 {G : fw_G} {ad : Nat → Nat} {kt : kw_T} {iv : fw_F} {ar : fw_R} {g : Nat → Int32} : (kw G ad kt iv ar).set 12 (ad 12, .inl (G.2.1.1, 10, .inl g)) = kw G ad kt iv (va_up ar 12 g) := rfl
theorem kw_a13 {G : fw_G} {ad : Nat → Nat} {kt : kw_T} {iv : fw_F} {ar : fw_R} : (kw G ad kt iv ar)[13]? = some (ad 13, .inl (G.2.1.1, 576, .inl (ar 13))) := rfl
theorem kw_s13 {G : fw_G} {ad : Nat → Nat} {kt : kw_T} {iv : fw_F} {ar : fw_R} {g : Nat → Int32} : (kw G ad kt iv ar).set 13 (ad 13, .inl (G.2.1.1, 576, .inl g)) = kw G ad kt iv (va_up ar 13 g) := rfl
theorem kw_a14 {G : fw_G} {ad : Nat → Nat} {kt : kw_T} {iv : fw_F} {ar : fw_R} : (kw G ad kt iv ar)[14]? = some (ad 14, .inl (G.2.1.1, 576, .inl (ar 14))) := rfl
theorem kw_s14 {G : fw_G} {ad : Nat → Nat} {kt : kw_T} {iv : fw_F} {ar : fw_R} {g : Nat → Int32} : (kw G ad kt iv ar).set 14 (ad 14, .inl (G.2.1.1, 576, .inl g)) = kw G ad kt iv (va_up ar 14 g) := rfl
theorem kw_a15 {G : fw_G} {ad : Nat → Nat} {kt : kw_T} {iv : fw_F} {ar : fw_R} : (kw G ad kt iv ar)[15]? = some (ad 15, .inl (G.2.1.1, 4, .inl (ar 15))) := rfl
theorem kw_s15 {G : fw_G} {ad : Nat → Nat} {kt : kw_T} {iv : fw_F} {ar : fw_R} {g : Nat → Int32} : (kw G ad kt iv ar).set 15 (ad 15, .inl (G.2.1.1, 4, .inl g)) = kw G ad kt iv (va_up ar 15 g) := rfl
theorem kw_a25 {G : fw_G} {ad : Nat → Nat} {kt : kw_T} {iv : fw_F} {ar : fw_R} : (kw G ad kt iv ar)[25]? = some (ad 25, .inl (G.2.1.1, 80, .inl (ar 25))) := rfl
theorem kw_s25 {G : fw_G} {ad : Nat → Nat} {kt : kw_T} {iv : fw_F} {ar : fw_R} {g : Nat → Int32} : (kw G ad kt iv ar).set 25 (ad 25, .inl (G.2.1.1, 80, .inl g)) = kw G ad kt iv (va_up ar 25 g) := rfl
theorem kw_a26 {G : fw_G} {ad : Nat → Nat} {kt : kw_T} {iv : fw_F} {ar : fw_R} : (kw G ad kt iv ar)[26]? = some (ad 26, .inl (G.2.1.2.1, 8, .inl (ar 26))) := rfl
theorem kw_s26 {G : fw_G} {ad : Nat → Nat} {kt : kw_T} {iv : fw_F} {ar : fw_R} {g : Nat → Int32} : (kw G ad kt iv ar).set 26 (ad 26, .inl (G.2.1.2.1, 8, .inl g)) = kw G ad kt iv (va_up ar 26 g) := rfl
theorem kw_r1 {G : fw_G} {ad : Nat → Nat} {kt : kw_T} {iv : fw_F} {ar : fw_R} : (kw G ad kt iv ar)[1]? = some (ad 1, .inl (G.2.1.2.2.1, 6, .inr (.inr (.inr (.inr (kw_q ad kt.1)))))) := rfl
theorem kw_r16 {G : fw_G} {ad : Nat → Nat} {kt : kw_T} {iv : fw_F} {ar : fw_R} : (kw G ad kt iv ar)[16]? = some (ad 16, .inl (G.2.1.2.2.2, 4, .inr (.inr (.inr (.inr (fun j => some (ad (17 + j)))))))) := rfl
theorem kw_o6 {G : fw_G} {ad : Nat → Nat} {kt : kw_T} {iv : fw_F} {ar : fw_R} {j : Nat} (hj : j < 4) : (kw G ad kt iv ar)[17 + j]? = some (ad (17 + j), .inr (6, [.ref (ad (21 + j)), .int (iv (9 + j)), .int (iv (13 + j)), .int (iv (17 + j))])) := by
  match j, hj with
  | 0, _ => rfl
  | 1, _ => rfl
  | 2, _ => rfl
  | 3, _ => rfl
  | j + 4, h => exact absurd h (by omega)
theorem kw_p6_has {G : fw_G} {ad : Nat → Nat} {kt : kw_T} {iv : fw_F} {ar : fw_R} {j : Nat} {v : Int32} (hj : j < 4) : (kw G ad kt iv ar).set (17 + j) (ad (17 + j), .inr (6, ([.ref (ad (21 + j)), .int (iv (9 + j)), .int (iv (13 + j)), .int (iv (17 + j))] : List Value).set 1 (.int v))) = kw G ad kt (va_up iv (9 + j) v) ar := by
  match j, hj with
  | 0, _ => rfl
  | 1, _ => rfl
  | 2, _ => rfl
  | 3, _ => rfl
  | j + 4, h => exact absurd h (by omega)
theorem kw_p6_sort {G : fw_G} {ad : Nat → Nat} {kt : kw_T} {iv : fw_F} {ar : fw_R} {j : Nat} {v : Int32} (hj : j < 4) : (kw G ad kt iv ar).set (17 + j) (ad (17 + j), .inr (6, ([.ref (ad (21 + j)), .int (iv (9 + j)), .int (iv (13 + j)), .int (iv (17 + j))] : List Value).set 2 (.int v))) = kw G ad kt (va_up iv (13 + j) v) ar := by
  match j, hj with
  | 0, _ => rfl
  | 1, _ => rfl
  | 2, _ => rfl
  | 3, _ => rfl
  | j + 4, h => exact absurd h (by omega)
theorem kw_p6_length {G : fw_G} {ad : Nat → Nat} {kt : kw_T} {iv : fw_F} {ar : fw_R} {j : Nat} {v : Int32} (hj : j < 4) : (kw G ad kt iv ar).set (17 + j) (ad (17 + j), .inr (6, ([.ref (ad (21 + j)), .int (iv (9 + j)), .int (iv (13 + j)), .int (iv (17 + j))] : List Value).set 3 (.int v))) = kw G ad kt (va_up iv (17 + j) v) ar := by
  match j, hj with
  | 0, _ => rfl
  | 1, _ => rfl
  | 2, _ => rfl
  | 3, _ => rfl
  | j + 4, h => exact absurd h (by omega)
theorem kw_aS {G : fw_G} {ad : Nat → Nat} {kt : kw_T} {iv : fw_F} {ar : fw_R} {j : Nat} (hj : j < 4) : (kw G ad kt iv ar)[21 + j]? = some (ad (21 + j), .inl (G.2.1.1, 80, .inl (ar (21 + j)))) := by
  match j, hj with
  | 0, _ => rfl
  | 1, _ => rfl
  | 2, _ => rfl
  | 3, _ => rfl
  | j + 4, h => exact absurd h (by omega)
theorem kw_sS {G : fw_G} {ad : Nat → Nat} {kt : kw_T} {iv : fw_F} {ar : fw_R} {j : Nat} {g : Nat → Int32} (hj : j < 4) : (kw G ad kt iv ar).set (21 + j) (ad (21 + j), .inl (G.2.1.1, 80, .inl g)) = kw G ad kt iv (va_up ar (21 + j) g) := by
  match j, hj with
  | 0, _ => rfl
  | 1, _ => rfl
  | 2, _ => rfl
  | 3, _ => rfl
  | j + 4, h => exact absurd h (by omega)
theorem kw_pool (f : Nat → Nat × va_E) (g : Nat → Nat × va_E) : ∀ (n i : Nat), i < n → ((List.range n).flatMap (fun i => [f i, g i]))[2 * i]? = some (f i) ∧ ((List.range n).flatMap (fun i => [f i, g i]))[2 * i + 1]? = some (g i) ∧ ((List.range n).flatMap (fun i => [f i, g i])).length = 2 * n := by
  intro n
  induction n with
  | zero => intro i h; exact absurd h (Nat.not_lt_zero i)
  | succ n ih =>
    intro i hi
    have hlen : ∀ n : Nat, ((List.range n).flatMap (fun i => [f i, g i])).length = 2 * n := by
      intro n
      induction n with
      | zero => rfl
      | succ n ih => rw [List.range_succ, List.flatMap_append, List.length_append, ih]; simp; omega
    rw [List.range_succ, List.flatMap_append]
    rcases Nat.lt_or_ge i n with h | h
    · obtain ⟨a, b, c⟩ := ih i h
      refine ⟨?_, ?_, ?_⟩
      · rw [List.getElem?_append_left (by rw [hlen]; omega)]; exact a
      · rw [List.getElem?_append_left (by rw [hlen]; omega)]; exact b
      · rw [List.length_append, hlen]; simp; omega
    · have e : i = n := by omega
      subst e
      refine ⟨?_, ?_, ?_⟩
      · rw [List.getElem?_append_right (by rw [hlen]; omega), hlen]; simp
      · rw [List.getElem?_append_right (by rw [hlen]; omega), hlen]; simp
      · rw [List.length_append, hlen]; simp; omega
theorem kw_oK {G : fw_G} {ad : Nat → Nat} {kt : kw_T} {iv : fw_F} {ar : fw_R} {i : Nat} (hi : i < kt.1) : (kw G ad kt iv ar)[28 + 2 * i]? = some (ad (28 + 2 * i), .inr (kw_c (kt.2.1 i), kw_kf ad kt i)) := by
  unfold kw
  rw [List.getElem?_append_right (by simp), show 28 + 2 * i - List.length _ = 2 * i from by simp]
  exact (kw_pool _ _ kt.1 i hi).1
theorem kw_aK {G : fw_G} {ad : Nat → Nat} {kt : kw_T} {iv : fw_F} {ar : fw_R} {i : Nat} (hi : i < kt.1) : (kw G ad kt iv ar)[29 + 2 * i]? = some (ad (29 + 2 * i), .inl (G.2.1.1, 216, .inl (kt.2.2.2 i))) := by
  unfold kw
  rw [List.getElem?_append_right (by simp; omega), show 29 + 2 * i - List.length _ = 2 * i + 1 from by simp; omega]
  exact (kw_pool _ _ kt.1 i hi).2.1
theorem kw_d3 {k : Nat} (e0 : k = 0) : kw_c k = 3 := by rw [e0]; rfl
theorem kw_d2 {k : Nat} (e0 : ¬ k = 0) (e1 : k = 1) : kw_c k = 2 := by rw [e1]; rfl
theorem kw_d8 {k : Nat} (e0 : ¬ k = 0) (e1 : ¬ k = 1) : kw_c k = 8 := by unfold kw_c; rw [if_neg e0, if_neg e1]
theorem kw_oK3 {G : fw_G} {ad : Nat → Nat} {kt : kw_T} {iv : fw_F} {ar : fw_R} {i : Nat} (hi : i < kt.1) (hd : kw_c (kt.2.1 i) = 3) : (kw G ad kt iv ar)[28 + 2 * i]? = some (ad (28 + 2 * i), .inr (3, kw_kf ad kt i)) := by rw [kw_oK hi, hd]
theorem kw_oK2 {G : fw_G} {ad : Nat → Nat} {kt : kw_T} {iv : fw_F} {ar : fw_R} {i : Nat} (hi : i < kt.1) (hd : kw_c (kt.2.1 i) = 2) : (kw G ad kt iv ar)[28 + 2 * i]? = some (ad (28 + 2 * i), .inr (2, kw_kf ad kt i)) := by rw [kw_oK hi, hd]
theorem kw_oK8 {G : fw_G} {ad : Nat → Nat} {kt : kw_T} {iv : fw_F} {ar : fw_R} {i : Nat} (hi : i < kt.1) (hd : kw_c (kt.2.1 i) = 8) : (kw G ad kt iv ar)[28 + 2 * i]? = some (ad (28 + 2 * i), .inr (8, kw_kf ad kt i)) := by rw [kw_oK hi, hd]
theorem kw_knAt {ad : Nat → Nat} {n j : Nat} (h : j < n) : va_rf (kw_q ad n j) = .ref (ad (28 + 2 * j)) := by unfold kw_q; rw [if_pos h]; rfl
section KWG
variable {p : Program} {l : Launch} {e : Env} {R : Room} {s : State} {m : MethodId} {args : Array Value} {below : List Frame} {meth : Method} {c : Code} {H : Heap} {locs : List Loc} {cells slots : Nat} {Q : State → Prop}
variable {pc : Nat} {ls : Array Slot} {rest : List Value} {A : Nat → Prop} {G : fw_G} {ad : Nat → Nat} {kt : kw_T} {iv : fw_F} {ar : fw_R} {cc : ByteArray} {rt : Option FieldType} {nL : Nat} {wd : List Cond} {own : String}
theorem kw_gK (C : fw_C p s m args meth c cc nL rt wd own) (h3 : ∀ x ∈ wsX30, x ∈ wd) (h2 : ∀ x ∈ wsX20, x ∈ wd) (h8 : ∀ x ∈ wsX80, x ∈ wd) (hK : fw_K G A s) (hG : fw_H G (kw G ad kt iv ar) A s H locs) {i : Nat} (hi : i < kt.1) (k : Nat) (hk : k < 6) {index : Nat} {ref : String} (hlink : (Cond.fieldLink own index ref (TX3 k).2.1 (TX3 k).2.2.1).before args s = true) (href : "KnifeBoard$Knife" = ref) {v : Value} (hv : (kw_kf ad kt i)[k]? = some v) (hdg : decode cc pc = .ok (.getfield index, 3))
    (kk : W p l e R s m args below meth c H locs cells slots Q (F0 m (pc + 3) ls (v :: rest))) : W p l e R s m args below meth c H locs cells slots Q (F0 m pc ls (.ref (ad (28 + 2 * i)) :: rest)) := by
  subst href
  have t2 : ∀ k, k < 6 → TX2 k = TX3 k ∧ TX8 k = TX3 k ∧ (TX3 k).1 = "KnifeBoard$Knife" := by decide +kernel
  obtain ⟨t2, t8, t3⟩ := t2 k hk
  by_cases e0 : kt.2.1 i = 0
  · exact fw_get (w := kw G ad kt) C h3 hK hG (28 + 2 * i) (kw_oK3 hi (kw_d3 e0)) rfl k hk hlink t3 hv hdg kk
  · by_cases e1 : kt.2.1 i = 1
    · exact fw_get (w := kw G ad kt) C h2 hK hG (28 + 2 * i) (kw_oK2 hi (kw_d2 e0 e1)) rfl k hk (by rw [t2]; exact hlink) (by rw [t2]; exact t3) hv hdg kk
    · exact fw_get (w := kw G ad kt) C h8 hK hG (28 + 2 * i) (kw_oK8 hi (kw_d8 e0 e1)) rfl k hk (by rw [t8]; exact hlink) (by rw [t8]; exact t3) hv hdg kk
theorem kw_instH (C : fw_C p s m args meth c cc nL rt wd own) (hK : fw_K G A s) (hG : fw_H G (kw G ad kt iv ar) A s H locs) {i : Nat} (hi : i < kt.1) {index : Nat} (hlink : (Cond.classLink own index "KnifeBoard$Hatchet").before args s = true) (hdg : decode cc pc = .ok (.instanceof index, 3))
    (k0 : kt.2.1 i = 0 → W p l e R s m args below meth c H locs cells slots Q (F0 m (pc + 3) ls (.int 0 :: rest))) (k1 : ¬ kt.2.1 i = 0 → W p l e R s m args below meth c H locs cells slots Q (F0 m (pc + 3) ls (.int 1 :: rest))) : W p l e R s m args below meth c H locs cells slots Q (F0 m pc ls (.ref (ad (28 + 2 * i)) :: rest)) := by
  by_cases e0 : kt.2.1 i = 0
  · exact va_instNo C.1 C.2.1 C.2.2.2.2.2.1 hlink hK.2.1.2.2.1.1 (va_recv hK.1 hG.1 (ci := 3) rfl (kw_oK3 hi (kw_d3 e0))) hdg (k0 e0)
  · by_cases e1 : kt.2.1 i = 1
    · exact va_instS C.1 C.2.1 C.2.2.2.2.2.1 hlink (hK.1.1 2 _ rfl).2 (va_recv hK.1 hG.1 (ci := 2) rfl (kw_oK2 hi (kw_d2 e0 e1))) hdg (k1 e0)
    · exact va_instY C.1 C.2.1 C.2.2.2.2.2.1 hlink hK.2.1.2.1.1 (va_recv hK.1 hG.1 (ci := 8) rfl (kw_oK8 hi (kw_d8 e0 e1))) hdg (k1 e0)
theorem kw_instT (C : fw_C p s m args meth c cc nL rt wd own) (hK : fw_K G A s) (hG : fw_H G (kw G ad kt iv ar) A s H locs) {i : Nat} (hi : i < kt.1) {index : Nat} (hlink : (Cond.classLink own index "KnifeBoard$Twin").before args s = true) (hdg : decode cc pc = .ok (.instanceof index, 3))
    (k0 : (kt.2.1 i = 0 ∨ kt.2.1 i = 1) → W p l e R s m args below meth c H locs cells slots Q (F0 m (pc + 3) ls (.int 0 :: rest))) (k1 : ¬ (kt.2.1 i = 0 ∨ kt.2.1 i = 1) → W p l e R s m args below meth c H locs cells slots Q (F0 m (pc + 3) ls (.int 1 :: rest))) : W p l e R s m args below meth c H locs cells slots Q (F0 m pc ls (.ref (ad (28 + 2 * i)) :: rest)) := by
  by_cases e0 : kt.2.1 i = 0
  · exact va_instNo C.1 C.2.1 C.2.2.2.2.2.1 hlink hK.2.1.2.2.1.2.1 (va_recv hK.1 hG.1 (ci := 3) rfl (kw_oK3 hi (kw_d3 e0))) hdg (k0 (Or.inl e0))
  · by_cases e1 : kt.2.1 i = 1
    · exact va_instNo C.1 C.2.1 C.2.2.2.2.2.1 hlink hK.2.1.2.2.1.2.2 (va_recv hK.1 hG.1 (ci := 2) rfl (kw_oK2 hi (kw_d2 e0 e1))) hdg (k0 (Or.inr e1))
    · exact va_instS C.1 C.2.1 C.2.2.2.2.2.1 hlink (hK.1.1 8 _ rfl).2 (va_recv hK.1 hG.1 (ci := 8) rfl (kw_oK8 hi (kw_d8 e0 e1))) hdg (k1 (fun z => z.elim e0 e1))
end KWG

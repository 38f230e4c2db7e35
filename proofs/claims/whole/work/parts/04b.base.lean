/-! PURE BASE: rows that reduce the pure functions -/
theorem bd1_s {A0 δ : Type} {a0 : A0} {k : A0 → Option δ} : bd1 (some a0) k = k a0 := rfl
theorem bd2_s {A0 A1 δ : Type} {a0 : A0} {a1 : A1} {k : A0 → A1 → Option δ} : bd2 (some (a0, a1)) k = k a0 a1 := rfl
theorem bd3_s {A0 A1 A2 δ : Type} {a0 : A0} {a1 : A1} {a2 : A2} {k : A0 → A1 → A2 → Option δ} : bd3 (some (a0, a1, a2)) k = k a0 a1 a2 := rfl
theorem bd4_s {A0 A1 A2 A3 δ : Type} {a0 : A0} {a1 : A1} {a2 : A2} {a3 : A3} {k : A0 → A1 → A2 → A3 → Option δ} : bd4 (some (a0, a1, a2, a3)) k = k a0 a1 a2 a3 := rfl
theorem bd5_s {A0 A1 A2 A3 A4 δ : Type} {a0 : A0} {a1 : A1} {a2 : A2} {a3 : A3} {a4 : A4} {k : A0 → A1 → A2 → A3 → A4 → Option δ} : bd5 (some (a0, a1, a2, a3, a4)) k = k a0 a1 a2 a3 a4 := rfl
theorem bd6_s {A0 A1 A2 A3 A4 A5 δ : Type} {a0 : A0} {a1 : A1} {a2 : A2} {a3 : A3} {a4 : A4} {a5 : A5} {k : A0 → A1 → A2 → A3 → A4 → A5 → Option δ} : bd6 (some (a0, a1, a2, a3, a4, a5)) k = k a0 a1 a2 a3 a4 a5 := rfl
theorem bd7_s {A0 A1 A2 A3 A4 A5 A6 δ : Type} {a0 : A0} {a1 : A1} {a2 : A2} {a3 : A3} {a4 : A4} {a5 : A5} {a6 : A6} {k : A0 → A1 → A2 → A3 → A4 → A5 → A6 → Option δ} : bd7 (some (a0, a1, a2, a3, a4, a5, a6)) k = k a0 a1 a2 a3 a4 a5 a6 := rfl
theorem bd8_s {A0 A1 A2 A3 A4 A5 A6 A7 δ : Type} {a0 : A0} {a1 : A1} {a2 : A2} {a3 : A3} {a4 : A4} {a5 : A5} {a6 : A6} {a7 : A7} {k : A0 → A1 → A2 → A3 → A4 → A5 → A6 → A7 → Option δ} : bd8 (some (a0, a1, a2, a3, a4, a5, a6, a7)) k = k a0 a1 a2 a3 a4 a5 a6 a7 := rfl
theorem bd9_s {A0 A1 A2 A3 A4 A5 A6 A7 A8 δ : Type} {a0 : A0} {a1 : A1} {a2 : A2} {a3 : A3} {a4 : A4} {a5 : A5} {a6 : A6} {a7 : A7} {a8 : A8} {k : A0 → A1 → A2 → A3 → A4 → A5 → A6 → A7 → A8 → Option δ} : bd9 (some (a0, a1, a2, a3, a4, a5, a6, a7, a8)) k = k a0 a1 a2 a3 a4 a5 a6 a7 a8 := rfl
theorem bd10_s {A0 A1 A2 A3 A4 A5 A6 A7 A8 A9 δ : Type} {a0 : A0} {a1 : A1} {a2 : A2} {a3 : A3} {a4 : A4} {a5 : A5} {a6 : A6} {a7 : A7} {a8 : A8} {a9 : A9} {k : A0 → A1 → A2 → A3 → A4 → A5 → A6 → A7 → A8 → A9 → Option δ} : bd10 (some (a0, a1, a2, a3, a4, a5, a6, a7, a8, a9)) k = k a0 a1 a2 a3 a4 a5 a6 a7 a8 a9 := rfl
theorem bd11_s {A0 A1 A2 A3 A4 A5 A6 A7 A8 A9 A10 δ : Type} {a0 : A0} {a1 : A1} {a2 : A2} {a3 : A3} {a4 : A4} {a5 : A5} {a6 : A6} {a7 : A7} {a8 : A8} {a9 : A9} {a10 : A10} {k : A0 → A1 → A2 → A3 → A4 → A5 → A6 → A7 → A8 → A9 → A10 → Option δ} : bd11 (some (a0, a1, a2, a3, a4, a5, a6, a7, a8, a9, a10)) k = k a0 a1 a2 a3 a4 a5 a6 a7 a8 a9 a10 := rfl
theorem bd12_s {A0 A1 A2 A3 A4 A5 A6 A7 A8 A9 A10 A11 δ : Type} {a0 : A0} {a1 : A1} {a2 : A2} {a3 : A3} {a4 : A4} {a5 : A5} {a6 : A6} {a7 : A7} {a8 : A8} {a9 : A9} {a10 : A10} {a11 : A11} {k : A0 → A1 → A2 → A3 → A4 → A5 → A6 → A7 → A8 → A9 → A10 → A11 → Option δ} : bd12 (some (a0, a1, a2, a3, a4, a5, a6, a7, a8, a9, a10, a11)) k = k a0 a1 a2 a3 a4 a5 a6 a7 a8 a9 a10 a11 := rfl
theorem bd13_s {A0 A1 A2 A3 A4 A5 A6 A7 A8 A9 A10 A11 A12 δ : Type} {a0 : A0} {a1 : A1} {a2 : A2} {a3 : A3} {a4 : A4} {a5 : A5} {a6 : A6} {a7 : A7} {a8 : A8} {a9 : A9} {a10 : A10} {a11 : A11} {a12 : A12} {k : A0 → A1 → A2 → A3 → A4 → A5 → A6 → A7 → A8 → A9 → A10 → A11 → A12 → Option δ} : bd13 (some (a0, a1, a2, a3, a4, a5, a6, a7, a8, a9, a10, a11, a12)) k = k a0 a1 a2 a3 a4 a5 a6 a7 a8 a9 a10 a11 a12 := rfl
theorem bd14_s {A0 A1 A2 A3 A4 A5 A6 A7 A8 A9 A10 A11 A12 A13 δ : Type} {a0 : A0} {a1 : A1} {a2 : A2} {a3 : A3} {a4 : A4} {a5 : A5} {a6 : A6} {a7 : A7} {a8 : A8} {a9 : A9} {a10 : A10} {a11 : A11} {a12 : A12} {a13 : A13} {k : A0 → A1 → A2 → A3 → A4 → A5 → A6 → A7 → A8 → A9 → A10 → A11 → A12 → A13 → Option δ} : bd14 (some (a0, a1, a2, a3, a4, a5, a6, a7, a8, a9, a10, a11, a12, a13)) k = k a0 a1 a2 a3 a4 a5 a6 a7 a8 a9 a10 a11 a12 a13 := rfl
theorem bd15_s {A0 A1 A2 A3 A4 A5 A6 A7 A8 A9 A10 A11 A12 A13 A14 δ : Type} {a0 : A0} {a1 : A1} {a2 : A2} {a3 : A3} {a4 : A4} {a5 : A5} {a6 : A6} {a7 : A7} {a8 : A8} {a9 : A9} {a10 : A10} {a11 : A11} {a12 : A12} {a13 : A13} {a14 : A14} {k : A0 → A1 → A2 → A3 → A4 → A5 → A6 → A7 → A8 → A9 → A10 → A11 → A12 → A13 → A14 → Option δ} : bd15 (some (a0, a1, a2, a3, a4, a5, a6, a7, a8, a9, a10, a11, a12, a13, a14)) k = k a0 a1 a2 a3 a4 a5 a6 a7 a8 a9 a10 a11 a12 a13 a14 := rfl
theorem bd16_s {A0 A1 A2 A3 A4 A5 A6 A7 A8 A9 A10 A11 A12 A13 A14 A15 δ : Type} {a0 : A0} {a1 : A1} {a2 : A2} {a3 : A3} {a4 : A4} {a5 : A5} {a6 : A6} {a7 : A7} {a8 : A8} {a9 : A9} {a10 : A10} {a11 : A11} {a12 : A12} {a13 : A13} {a14 : A14} {a15 : A15} {k : A0 → A1 → A2 → A3 → A4 → A5 → A6 → A7 → A8 → A9 → A10 → A11 → A12 → A13 → A14 → A15 → Option δ} : bd16 (some (a0, a1, a2, a3, a4, a5, a6, a7, a8, a9, a10, a11, a12, a13, a14, a15)) k = k a0 a1 a2 a3 a4 a5 a6 a7 a8 a9 a10 a11 a12 a13 a14 a15 := rfl
theorem bd17_s {A0 A1 A2 A3 A4 A5 A6 A7 A8 A9 A10 A11 A12 A13 A14 A15 A16 δ : Type} {a0 : A0} {a1 : A1} {a2 : A2} {a3 : A3} {a4 : A4} {a5 : A5} {a6 : A6} {a7 : A7} {a8 : A8} {a9 : A9} {a10 : A10} {a11 : A11} {a12 : A12} {a13 : A13} {a14 : A14} {a15 : A15} {a16 : A16} {k : A0 → A1 → A2 → A3 → A4 → A5 → A6 → A7 → A8 → A9 → A10 → A11 → A12 → A13 → A14 → A15 → A16 → Option δ} : bd17 (some (a0, a1, a2, a3, a4, a5, a6, a7, a8, a9, a10, a11, a12, a13, a14, a15, a16)) k = k a0 a1 a2 a3 a4 a5 a6 a7 a8 a9 a10 a11 a12 a13 a14 a15 a16 := rfl
theorem bd18_s {A0 A1 A2 A3 A4 A5 A6 A7 A8 A9 A10 A11 A12 A13 A14 A15 A16 A17 δ : Type} {a0 : A0} {a1 : A1} {a2 : A2} {a3 : A3} {a4 : A4} {a5 : A5} {a6 : A6} {a7 : A7} {a8 : A8} {a9 : A9} {a10 : A10} {a11 : A11} {a12 : A12} {a13 : A13} {a14 : A14} {a15 : A15} {a16 : A16} {a17 : A17} {k : A0 → A1 → A2 → A3 → A4 → A5 → A6 → A7 → A8 → A9 → A10 → A11 → A12 → A13 → A14 → A15 → A16 → A17 → Option δ} : bd18 (some (a0, a1, a2, a3, a4, a5, a6, a7, a8, a9, a10, a11, a12, a13, a14, a15, a16, a17)) k = k a0 a1 a2 a3 a4 a5 a6 a7 a8 a9 a10 a11 a12 a13 a14 a15 a16 a17 := rfl
theorem bd19_s {A0 A1 A2 A3 A4 A5 A6 A7 A8 A9 A10 A11 A12 A13 A14 A15 A16 A17 A18 δ : Type} {a0 : A0} {a1 : A1} {a2 : A2} {a3 : A3} {a4 : A4} {a5 : A5} {a6 : A6} {a7 : A7} {a8 : A8} {a9 : A9} {a10 : A10} {a11 : A11} {a12 : A12} {a13 : A13} {a14 : A14} {a15 : A15} {a16 : A16} {a17 : A17} {a18 : A18} {k : A0 → A1 → A2 → A3 → A4 → A5 → A6 → A7 → A8 → A9 → A10 → A11 → A12 → A13 → A14 → A15 → A16 → A17 → A18 → Option δ} : bd19 (some (a0, a1, a2, a3, a4, a5, a6, a7, a8, a9, a10, a11, a12, a13, a14, a15, a16, a17, a18)) k = k a0 a1 a2 a3 a4 a5 a6 a7 a8 a9 a10 a11 a12 a13 a14 a15 a16 a17 a18 := rfl
theorem bd20_s {A0 A1 A2 A3 A4 A5 A6 A7 A8 A9 A10 A11 A12 A13 A14 A15 A16 A17 A18 A19 δ : Type} {a0 : A0} {a1 : A1} {a2 : A2} {a3 : A3} {a4 : A4} {a5 : A5} {a6 : A6} {a7 : A7} {a8 : A8} {a9 : A9} {a10 : A10} {a11 : A11} {a12 : A12} {a13 : A13} {a14 : A14} {a15 : A15} {a16 : A16} {a17 : A17} {a18 : A18} {a19 : A19} {k : A0 → A1 → A2 → A3 → A4 → A5 → A6 → A7 → A8 → A9 → A10 → A11 → A12 → A13 → A14 → A15 → A16 → A17 → A18 → A19 → Option δ} : bd20 (some (a0, a1, a2, a3, a4, a5, a6, a7, a8, a9, a10, a11, a12, a13, a14, a15, a16, a17, a18, a19)) k = k a0 a1 a2 a3 a4 a5 a6 a7 a8 a9 a10 a11 a12 a13 a14 a15 a16 a17 a18 a19 := rfl
theorem bd21_s {A0 A1 A2 A3 A4 A5 A6 A7 A8 A9 A10 A11 A12 A13 A14 A15 A16 A17 A18 A19 A20 δ : Type} {a0 : A0} {a1 : A1} {a2 : A2} {a3 : A3} {a4 : A4} {a5 : A5} {a6 : A6} {a7 : A7} {a8 : A8} {a9 : A9} {a10 : A10} {a11 : A11} {a12 : A12} {a13 : A13} {a14 : A14} {a15 : A15} {a16 : A16} {a17 : A17} {a18 : A18} {a19 : A19} {a20 : A20} {k : A0 → A1 → A2 → A3 → A4 → A5 → A6 → A7 → A8 → A9 → A10 → A11 → A12 → A13 → A14 → A15 → A16 → A17 → A18 → A19 → A20 → Option δ} : bd21 (some (a0, a1, a2, a3, a4, a5, a6, a7, a8, a9, a10, a11, a12, a13, a14, a15, a16, a17, a18, a19, a20)) k = k a0 a1 a2 a3 a4 a5 a6 a7 a8 a9 a10 a11 a12 a13 a14 a15 a16 a17 a18 a19 a20 := rfl
theorem bd22_s {A0 A1 A2 A3 A4 A5 A6 A7 A8 A9 A10 A11 A12 A13 A14 A15 A16 A17 A18 A19 A20 A21 δ : Type} {a0 : A0} {a1 : A1} {a2 : A2} {a3 : A3} {a4 : A4} {a5 : A5} {a6 : A6} {a7 : A7} {a8 : A8} {a9 : A9} {a10 : A10} {a11 : A11} {a12 : A12} {a13 : A13} {a14 : A14} {a15 : A15} {a16 : A16} {a17 : A17} {a18 : A18} {a19 : A19} {a20 : A20} {a21 : A21} {k : A0 → A1 → A2 → A3 → A4 → A5 → A6 → A7 → A8 → A9 → A10 → A11 → A12 → A13 → A14 → A15 → A16 → A17 → A18 → A19 → A20 → A21 → Option δ} : bd22 (some (a0, a1, a2, a3, a4, a5, a6, a7, a8, a9, a10, a11, a12, a13, a14, a15, a16, a17, a18, a19, a20, a21)) k = k a0 a1 a2 a3 a4 a5 a6 a7 a8 a9 a10 a11 a12 a13 a14 a15 a16 a17 a18 a19 a20 a21 := rfl
theorem bd23_s {A0 A1 A2 A3 A4 A5 A6 A7 A8 A9 A10 A11 A12 A13 A14 A15 A16 A17 A18 A19 A20 A21 A22 δ : Type} {a0 : A0} {a1 : A1} {a2 : A2} {a3 : A3} {a4 : A4} {a5 : A5} {a6 : A6} {a7 : A7} {a8 : A8} {a9 : A9} {a10 : A10} {a11 : A11} {a12 : A12} {a13 : A13} {a14 : A14} {a15 : A15} {a16 : A16} {a17 : A17} {a18 : A18} {a19 : A19} {a20 : A20} {a21 : A21} {a22 : A22} {k : A0 → A1 → A2 → A3 → A4 → A5 → A6 → A7 → A8 → A9 → A10 → A11 → A12 → A13 → A14 → A15 → A16 → A17 → A18 → A19 → A20 → A21 → A22 → Option δ} : bd23 (some (a0, a1, a2, a3, a4, a5, a6, a7, a8, a9, a10, a11, a12, a13, a14, a15, a16, a17, a18, a19, a20, a21, a22)) k = k a0 a1 a2 a3 a4 a5 a6 a7 a8 a9 a10 a11 a12 a13 a14 a15 a16 a17 a18 a19 a20 a21 a22 := rfl
theorem bd24_s {A0 A1 A2 A3 A4 A5 A6 A7 A8 A9 A10 A11 A12 A13 A14 A15 A16 A17 A18 A19 A20 A21 A22 A23 δ : Type} {a0 : A0} {a1 : A1} {a2 : A2} {a3 : A3} {a4 : A4} {a5 : A5} {a6 : A6} {a7 : A7} {a8 : A8} {a9 : A9} {a10 : A10} {a11 : A11} {a12 : A12} {a13 : A13} {a14 : A14} {a15 : A15} {a16 : A16} {a17 : A17} {a18 : A18} {a19 : A19} {a20 : A20} {a21 : A21} {a22 : A22} {a23 : A23} {k : A0 → A1 → A2 → A3 → A4 → A5 → A6 → A7 → A8 → A9 → A10 → A11 → A12 → A13 → A14 → A15 → A16 → A17 → A18 → A19 → A20 → A21 → A22 → A23 → Option δ} : bd24 (some (a0, a1, a2, a3, a4, a5, a6, a7, a8, a9, a10, a11, a12, a13, a14, a15, a16, a17, a18, a19, a20, a21, a22, a23)) k = k a0 a1 a2 a3 a4 a5 a6 a7 a8 a9 a10 a11 a12 a13 a14 a15 a16 a17 a18 a19 a20 a21 a22 a23 := rfl
theorem bd25_s {A0 A1 A2 A3 A4 A5 A6 A7 A8 A9 A10 A11 A12 A13 A14 A15 A16 A17 A18 A19 A20 A21 A22 A23 A24 δ : Type} {a0 : A0} {a1 : A1} {a2 : A2} {a3 : A3} {a4 : A4} {a5 : A5} {a6 : A6} {a7 : A7} {a8 : A8} {a9 : A9} {a10 : A10} {a11 : A11} {a12 : A12} {a13 : A13} {a14 : A14} {a15 : A15} {a16 : A16} {a17 : A17} {a18 : A18} {a19 : A19} {a20 : A20} {a21 : A21} {a22 : A22} {a23 : A23} {a24 : A24} {k : A0 → A1 → A2 → A3 → A4 → A5 → A6 → A7 → A8 → A9 → A10 → A11 → A12 → A13 → A14 → A15 → A16 → A17 → A18 → A19 → A20 → A21 → A22 → A23 → A24 → Option δ} : bd25 (some (a0, a1, a2, a3, a4, a5, a6, a7, a8, a9, a10, a11, a12, a13, a14, a15, a16, a17, a18, a19, a20, a21, a22, a23, a24)) k = k a0 a1 a2 a3 a4 a5 a6 a7 a8 a9 a10 a11 a12 a13 a14 a15 a16 a17 a18 a19 a20 a21 a22 a23 a24 := rfl
theorem bd26_s {A0 A1 A2 A3 A4 A5 A6 A7 A8 A9 A10 A11 A12 A13 A14 A15 A16 A17 A18 A19 A20 A21 A22 A23 A24 A25 δ : Type} {a0 : A0} {a1 : A1} {a2 : A2} {a3 : A3} {a4 : A4} {a5 : A5} {a6 : A6} {a7 : A7} {a8 : A8} {a9 : A9} {a10 : A10} {a11 : A11} {a12 : A12} {a13 : A13} {a14 : A14} {a15 : A15} {a16 : A16} {a17 : A17} {a18 : A18} {a19 : A19} {a20 : A20} {a21 : A21} {a22 : A22} {a23 : A23} {a24 : A24} {a25 : A25} {k : A0 → A1 → A2 → A3 → A4 → A5 → A6 → A7 → A8 → A9 → A10 → A11 → A12 → A13 → A14 → A15 → A16 → A17 → A18 → A19 → A20 → A21 → A22 → A23 → A24 → A25 → Option δ} : bd26 (some (a0, a1, a2, a3, a4, a5, a6, a7, a8, a9, a10, a11, a12, a13, a14, a15, a16, a17, a18, a19, a20, a21, a22, a23, a24, a25)) k = k a0 a1 a2 a3 a4 a5 a6 a7 a8 a9 a10 a11 a12 a13 a14 a15 a16 a17 a18 a19 a20 a21 a22 a23 a24 a25 := rfl
theorem bd0_s {δ : Type} {k : Option δ} : bd0 (some ()) k = k := rfl
theorem nm_s {α β : Type} (e : α) (k : α → β) : nm e k = k e := rfl
theorem ck_in {α : Type} {n : Nat} {i : Int32} {r : Option α} (h : vp_in i n) : ck n i r = r := if_neg h
theorem ck_n {α : Type} {n i : Nat} {r : Option α} (h : i < n) (hn : n < 2 ^ 31) : ck n (nI i) r = r := if_neg (vp_in_nI h hn)
theorem dz_n {α : Type} {y : Nat} {r : Option α} (h : 0 < y) (hy : y < 2 ^ 31) : dz (nI y) r = r := if_neg (nI_ne0 h hy)
theorem dzl_n {α : Type} {y : Nat} {r : Option α} (h : 0 < y) (hy : y < 2 ^ 63) : dzl (lN y) r = r := if_neg (by
  rw [fa_litL 0, pk_lEQ hy (by decide)]; omega)
theorem zl0 : (0 : Int32) = nI 0 := rfl
theorem zl31 : (31 : Int32) = nI 31 := rfl
theorem zl63 : (63 : Int64) = lN 63 := rfl
theorem zl0l : (0 : Int64) = lN 0 := rfl
/-- a truth as an int -/
def zb (c : Prop) [Decidable c] : Int32 := if c then nI 1 else nI 0
theorem zb_t {c : Prop} [Decidable c] (h : c) : zb c = nI 1 := if_pos h
theorem zb_f {c : Prop} [Decidable c] (h : ¬ c) : zb c = nI 0 := if_neg h
theorem n1_ne : ¬ nI 1 = 0 := by decide
theorem n0_eq : nI 0 = 0 := rfl
theorem if_n1 {α : Type} {a b : α} : (if nI 1 = 0 then a else b) = b := if_neg n1_ne
theorem if_n0 {α : Type} {a b : α} : (if nI 0 = 0 then a else b) = a := if_pos rfl
theorem zb_if {c : Prop} [Decidable c] {α : Type} {a b : α} : (if zb c = 0 then a else b) = if c then b else a := by
  unfold zb
  by_cases h : c
  · rw [if_pos h, if_pos h]; exact if_n1
  · rw [if_neg h, if_neg h]; exact if_n0
theorem cz_zb {c : Prop} [Decidable c] {α : Type} {r : Option α} : cz (zb c) r = r := by
  unfold zb cz
  by_cases h : c
  · rw [if_pos h]; exact if_pos (Or.inr rfl)
  · rw [if_neg h]; exact if_pos (Or.inl rfl)
theorem cz_0 {α : Type} {r : Option α} : cz (nI 0) r = r := if_pos (Or.inl rfl)
theorem cz_1 {α : Type} {r : Option α} : cz (nI 1) r = r := if_pos (Or.inr rfl)
theorem zb_congr {c d : Prop} [Decidable c] [Decidable d] (h : c ↔ d) : zb c = zb d := by
  unfold zb
  by_cases q : c
  · rw [if_pos q, if_pos (h.mp q)]
  · rw [if_neg q, if_neg (fun z => q (h.mpr z))]
theorem ti_lt {x : Int32} {n : Nat} (hn : n < 2 ^ 31) : x < nI n ↔ x.toInt < n := by rw [fa_lt, nI_toInt hn]
theorem ti_le {x : Int32} {n : Nat} (hn : n < 2 ^ 31) : nI n ≤ x ↔ (n : Int) ≤ x.toInt := by rw [fa_le, nI_toInt hn]
theorem ti_le' {x : Int32} {n : Nat} (hn : n < 2 ^ 31) : x ≤ nI n ↔ x.toInt ≤ n := by rw [fa_le, nI_toInt hn]
theorem ti_lt' {x : Int32} {n : Nat} (hn : n < 2 ^ 31) : nI n < x ↔ (n : Int) < x.toInt := by rw [fa_lt, nI_toInt hn]
theorem ti_eq {x : Int32} {n : Nat} (hn : n < 2 ^ 31) : x = nI n ↔ x.toInt = n := by rw [fa_eq, nI_toInt hn]
theorem ti_of {x : Int32} {n : Nat} (h : x.toInt = n) : x = nI n := by
  have h2 : x.toInt < 2 ^ 31 := Int32.toInt_lt x
  rw [ti_eq (by omega)]; exact h
theorem ti_in {x : Int32} {n : Nat} (h0 : 0 ≤ x.toInt) (h : x.toInt < n) : ∃ j, j < n ∧ x = nI j := ⟨x.toInt.toNat, by omega, ti_of (by omega)⟩
theorem wi_n {a : Nat} (h : a < 2 ^ 31) : (nI a).toInt64 = lN a := nI_l h
/-- the reference's 'in' over ints -/
theorem in_of (x : Int32) {a b : Nat} (ha : a < 2 ^ 31) (hb : b < 2 ^ 31) : D_X10_in x.toInt64 (lN a) (lN b) = some (zb ((a : Int) ≤ x.toInt ∧ x.toInt ≤ b)) := by
  unfold D_X10_in
  rw [← nI_l ha, ← nI_l hb]
  by_cases h1 : lg_cmp x.toInt64 (nI a).toInt64 < 0
  · rw [if_pos h1, zb_f]
    rw [lg_cmp_lt, fa_wide_lt, ti_lt ha] at h1
    omega
  · rw [if_neg h1]
    rw [lg_cmp_lt, fa_wide_lt, ti_lt ha] at h1
    by_cases h2 : 0 < lg_cmp x.toInt64 (nI b).toInt64
    · rw [if_pos h2, zb_f]
      rw [lg_cmp_gt, fa_wide_lt, ti_lt' hb] at h2
      omega
    · rw [if_neg h2, zb_t]
      rw [lg_cmp_gt, fa_wide_lt, ti_lt' hb] at h2
      omega
theorem in_n {v a b : Nat} (hv : v < 2 ^ 31) (ha : a < 2 ^ 31) (hb : b < 2 ^ 31) : D_X10_in (lN v) (lN a) (lN b) = some (zb (a ≤ v ∧ v ≤ b)) := by
  rw [← nI_l hv, in_of _ ha hb, nI_toInt hv]
  exact congrArg some (zb_congr (by omega))
theorem lt0_iff (x : Int32) : x < 0 ↔ x.toInt < 0 := by rw [zl0, ti_lt (by decide)]; omega
/-- tests of a range in the class -/
theorem rng_of {x : Int32} {n : Nat} (hn : n < 2 ^ 31) : (if x < 0 then some (nI 0) else if nI n ≤ x then some (nI 0) else some (nI 1)) = some (zb (0 ≤ x.toInt ∧ x.toInt < n)) := by
  by_cases h1 : x < 0
  · rw [if_pos h1, zb_f]; rw [lt0_iff] at h1; omega
  · rw [if_neg h1]; rw [lt0_iff] at h1
    by_cases h2 : nI n ≤ x
    · rw [if_pos h2, zb_f]; rw [ti_le hn] at h2; omega
    · rw [if_neg h2, zb_t]; rw [ti_le hn] at h2; omega
theorem isPeople_of (x : Int32) : D_X9_isPeople x = some (zb (0 ≤ x.toInt ∧ x.toInt < 2)) := rng_of (n := 2) (by decide)
theorem isMeaning_of (x : Int32) : D_X9_isMeaning x = some (zb (0 ≤ x.toInt ∧ x.toInt < 8)) := rng_of (n := 8) (by decide)
theorem isEar_of (x : Int32) : D_X9_isEar x = some (zb (0 ≤ x.toInt ∧ x.toInt < 3)) := rng_of (n := 3) (by decide)
theorem isMeaningM_of (x : Int32) : D_X10_isMeaning x = some (zb (0 ≤ x.toInt ∧ x.toInt < 8)) := by
  unfold D_X10_isMeaning
  rw [in_of x (by decide) (by decide), bd1_s, cz_zb]
  exact congrArg some (zb_congr (by omega))

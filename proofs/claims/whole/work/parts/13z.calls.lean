/-! ===== the calls of the law: the system, the reference ===== -/
def y_S (k : Nat) (a1 a2 a3 a4 a5 a6 : Int32) (σ : x_S) : Option (Int32 × x_S) :=
    if k = 0 then fX7_row a1 a2 a3 σ else
    if k = 1 then fX7_set a1 a2 a3 σ else
    if k = 2 then fX7_copy a1 a2 a3 a4 a5 σ else
    if k = 3 then fX7_drop a1 σ else
    if k = 4 then fX7_feed a1 σ else
    if k = 5 then fX7_city σ else
    if k = 6 then x_p (fX7_fault σ) (fun r => some (r, σ)) else
    if k = 7 then fX7_make a1 a2 σ else
    if k = 8 then fX7_dim a1 a2 σ else
    if k = 9 then fX7_train a1 a2 σ else
    if k = 10 then fX7_know a1 a2 σ else
    if k = 11 then fX7_undo σ else
    if k = 12 then x_p (fX7_gesture a1 a2 σ) (fun r => some (r, σ)) else
    if k = 13 then x_p (fX7_street a1 a2 σ) (fun r => some (r, σ)) else
    if k = 14 then x_p (fX7_duty a1 a2 σ) (fun r => some (r, σ)) else
    if k = 15 then fX7_tell a1 a2 a3 a4 a5 σ else
    if k = 16 then x_p (fX7_shut a1 σ) (fun r => some (r, σ)) else
    if k = 17 then x_p (fX7_quick a1 a2 a3 σ) (fun r => some (r, σ)) else
    if k = 18 then fX7_thread a1 a2 a3 σ else
    if k = 19 then fX7_inches a1 a2 a3 a4 σ else
    if k = 20 then fX7_sorts a1 a2 a3 a4 σ else
    if k = 21 then x_p (fX7_saved a1 σ) (fun r => some (r, σ)) else
    if k = 22 then x_p (fX7_worst a1 a2 σ) (fun r => some (r, σ)) else
    if k = 23 then x_p (fX7_tremble a1 a2 a3 a4 a5 a6 σ) (fun r => some (r, σ)) else
    if k = 24 then fX7_image a1 σ else
    if k = 25 then fX7_restore a1 σ else
    if k = 26 then x_p (fX7_kind a1 σ) (fun r => some (r, σ)) else
    if k = 27 then fX7_as a1 a2 σ else
    if k = 28 then fX7_ask a1 a2 σ else
    if k = 29 then x_p (fX7_trace a1 σ) (fun r => some (r, σ)) else
    if k = 30 then x_p (fX7_count a1 σ) (fun r => some (r, σ)) else
    if k = 31 then x_p (fX7_status σ) (fun r => some (r, σ)) else none
def y_M (k : Nat) (a1 a2 a3 a4 a5 a6 : Int32) (σ : x_S) : Option (Int32 × x_S) :=
    if k = 0 then fX8_row a1 a2 a3 σ else
    if k = 1 then fX8_set a1 a2 a3 σ else
    if k = 2 then fX8_copy a1 a2 a3 a4 a5 σ else
    if k = 3 then fX8_drop a1 σ else
    if k = 4 then fX8_feed a1 σ else
    if k = 5 then fX8_city σ else
    if k = 6 then x_p (fX8_fault σ) (fun r => some (r, σ)) else
    if k = 7 then fX8_make a1 a2 σ else
    if k = 8 then fX8_dim a1 a2 σ else
    if k = 9 then fX8_train a1 a2 σ else
    if k = 10 then fX8_know a1 a2 σ else
    if k = 11 then fX8_undo σ else
    if k = 12 then x_p (fX8_gesture a1 a2 σ) (fun r => some (r, σ)) else
    if k = 13 then x_p (fX8_street a1 a2 σ) (fun r => some (r, σ)) else
    if k = 14 then x_p (fX8_duty a1 a2 σ) (fun r => some (r, σ)) else
    if k = 15 then fX8_tell a1 a2 a3 a4 a5 σ else
    if k = 16 then x_p (fX8_shut a1 σ) (fun r => some (r, σ)) else
    if k = 17 then x_p (fX8_quick a1 a2 a3 σ) (fun r => some (r, σ)) else
    if k = 18 then fX8_thread a1 a2 a3 σ else
    if k = 19 then fX8_inches a1 a2 a3 a4 σ else
    if k = 20 then fX8_sorts a1 a2 a3 a4 σ else
    if k = 21 then x_p (fX8_saved a1 σ) (fun r => some (r, σ)) else
    if k = 22 then x_p (fX8_worst a1 a2 σ) (fun r => some (r, σ)) else
    if k = 23 then x_p (fX8_tremble a1 a2 a3 a4 a5 a6 σ) (fun r => some (r, σ)) else
    if k = 24 then fX8_image a1 σ else
    if k = 25 then fX8_restore a1 σ else
    if k = 26 then x_p (fX8_kind a1 σ) (fun r => some (r, σ)) else
    if k = 27 then fX8_as a1 a2 σ else
    if k = 28 then fX8_ask a1 a2 σ else
    if k = 29 then x_p (fX8_trace a1 σ) (fun r => some (r, σ)) else
    if k = 30 then x_p (fX8_count a1 σ) (fun r => some (r, σ)) else
    if k = 31 then x_p (fX8_status σ) (fun r => some (r, σ)) else none

theorem zz_look : lw_tbl = lw_tbl := rfl

theorem hPt {D : va_G} {cl : List vw_C} {ws : va_W} {H : Heap} {t : State} (h : va_P D cl ws H) (ht : t.heap = H) : va_P D cl ws t.heap := ht ▸ h

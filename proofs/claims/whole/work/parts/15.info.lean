def zM_x_new : zz_M := ("CinemaClock", prog_1_method_1_code, 1, none, 999, false, 3, 0, 2)
def zM_x_workers : zz_M := ("CinemaClock", prog_1_method_2_code, 3, (some .int), 0, false, 0, 0, 1)
def zM_x_group : zz_M := ("CinemaClock", prog_1_method_3_code, 2, (some .int), 0, false, 0, 0, 1)
def zM_x_task : zz_M := ("CinemaClock", prog_1_method_4_code, 4, (some .int), 0, false, 0, 0, 3)
def zM_x_set : zz_M := ("CinemaClock", prog_1_method_5_code, 6, (some .int), 0, false, 0, 0, 2)
def zM_x_leastTold : zz_M := ("CinemaClock", prog_1_method_6_code, 1, (some .int), 0, false, 0, 0, 0)
def zM_x_mostTold : zz_M := ("CinemaClock", prog_1_method_7_code, 2, (some .int), 0, false, 0, 0, 0)
def zM_x_calendar : zz_M := ("CinemaClock", prog_1_method_8_code, 6, (some .int), 0, false, 0, 0, 2)
def zM_x_body : zz_M := ("CinemaClock", prog_1_method_9_code, 7, (some .int), 0, false, 0, 0, 2)
def zM_x_after : zz_M := ("CinemaClock", prog_1_method_10_code, 5, (some .int), 0, false, 0, 0, 3)
def zM_x_comesAfter : zz_M := ("CinemaClock", prog_1_method_11_code, 7, (some .boolean), 0, true, 0, 0, 2)
def zM_x_link : zz_M := ("CinemaClock", prog_1_method_12_code, 4, (some .int), 0, false, 0, 0, 0)
def zM_x_plan : zz_M := ("CinemaClock", prog_1_method_13_code, 4, (some .int), 0, false, 0, 0, 2)
def zM_x_clearPlan : zz_M := ("CinemaClock", prog_1_method_14_code, 2, (some .int), 0, false, 0, 0, 0)
def zM_x_clock : zz_M := ("CinemaClock", prog_1_method_15_code, 5, (some .int), 0, false, 0, 0, 6)
def zM_x_treatMinute : zz_M := ("CinemaClock", prog_1_method_16_code, 2, none, 999, false, 0, 0, 5)
def zM_x_endRuns : zz_M := ("CinemaClock", prog_1_method_17_code, 3, none, 999, false, 0, 0, 4)
def zM_x_firstEnding : zz_M := ("CinemaClock", prog_1_method_18_code, 3, (some (.object "CinemaClock$Run")), 12, false, 0, 0, 0)
def zM_x_endRun : zz_M := ("CinemaClock", prog_1_method_19_code, 5, none, 999, false, 0, 0, 3)
def zM_x_act : zz_M := ("CinemaClock", prog_1_method_20_code, 5, (some .int), 0, false, 0, 0, 2)
def zM_x_followEnd : zz_M := ("CinemaClock", prog_1_method_21_code, 4, none, 999, false, 0, 0, 2)
def zM_x_restAfter : zz_M := ("CinemaClock", prog_1_method_22_code, 1, (some .int), 0, false, 0, 0, 1)
def zM_x_layDown : zz_M := ("CinemaClock", prog_1_method_23_code, 5, none, 999, false, 0, 0, 0)
def zM_x_tellAfters : zz_M := ("CinemaClock", prog_1_method_24_code, 5, none, 999, false, 0, 0, 2)
def zM_x_bringDues : zz_M := ("CinemaClock", prog_1_method_25_code, 4, none, 999, false, 0, 0, 4)
def zM_x_isDueByKind : zz_M := ("CinemaClock", prog_1_method_26_code, 3, (some .boolean), 0, true, 0, 0, 3)
def zM_x_comeDue : zz_M := ("CinemaClock", prog_1_method_27_code, 3, none, 999, false, 0, 0, 1)
def zM_x_fateOfDue : zz_M := ("CinemaClock", prog_1_method_28_code, 2, (some .int), 0, false, 0, 0, 0)
def zM_x_pauseAgain : zz_M := ("CinemaClock", prog_1_method_29_code, 2, none, 999, false, 0, 0, 0)
def zM_x_missDues : zz_M := ("CinemaClock", prog_1_method_30_code, 4, none, 999, false, 0, 0, 3)
def zM_x_isMissed : zz_M := ("CinemaClock", prog_1_method_31_code, 3, (some .boolean), 0, true, 0, 0, 0)
def zM_x_missDue : zz_M := ("CinemaClock", prog_1_method_32_code, 4, (some .int), 0, false, 0, 0, 2)
def zM_x_beginRuns : zz_M := ("CinemaClock", prog_1_method_33_code, 4, none, 999, false, 0, 0, 3)
def zM_x_freeWorker : zz_M := ("CinemaClock", prog_1_method_34_code, 2, (some .int), 0, false, 0, 0, 0)
def zM_x_firstToBegin : zz_M := ("CinemaClock", prog_1_method_35_code, 3, (some .int), 0, false, 0, 0, 2)
def zM_x_mayBegin : zz_M := ("CinemaClock", prog_1_method_36_code, 3, (some .boolean), 0, true, 0, 0, 1)
def zM_x_workIn : zz_M := ("CinemaClock", prog_1_method_37_code, 5, (some .int), 0, false, 0, 0, 0)
def zM_x_beginRun : zz_M := ("CinemaClock", prog_1_method_38_code, 5, none, 999, false, 0, 0, 2)
def zM_x_jump : zz_M := ("CinemaClock", prog_1_method_39_code, 2, (some .int), 0, false, 0, 0, 5)
def zM_x_jumpOver : zz_M := ("CinemaClock", prog_1_method_40_code, 6, none, 999, false, 0, 0, 4)
def zM_x_missJumped : zz_M := ("CinemaClock", prog_1_method_41_code, 7, none, 999, false, 0, 0, 3)
def zM_x_cancel : zz_M := ("CinemaClock", prog_1_method_42_code, 4, (some .int), 0, false, 0, 0, 4)
def zM_x_leave : zz_M := ("CinemaClock", prog_1_method_43_code, 3, none, 999, false, 0, 0, 1)
def zM_x_interruptRuns : zz_M := ("CinemaClock", prog_1_method_44_code, 4, none, 999, false, 0, 0, 3)
def zM_x_firstAtWork : zz_M := ("CinemaClock", prog_1_method_45_code, 4, (some (.object "CinemaClock$Run")), 12, false, 0, 0, 0)
def zM_x_stop : zz_M := ("CinemaClock", prog_1_method_46_code, 2, (some .int), 0, false, 0, 0, 4)
def zM_x_dropDues : zz_M := ("CinemaClock", prog_1_method_47_code, 3, none, 999, false, 0, 0, 1)
def zM_x_go : zz_M := ("CinemaClock", prog_1_method_48_code, 1, (some .int), 0, false, 0, 0, 0)
def zM_x_run : zz_M := ("CinemaClock", prog_1_method_49_code, 4, (some .int), 0, false, 0, 0, 1)
def zM_x_of : zz_M := ("CinemaClock", prog_1_method_50_code, 4, (some .int), 0, false, 0, 0, 2)
def zM_x_stateOf : zz_M := ("CinemaClock", prog_1_method_51_code, 3, (some .int), 0, false, 0, 0, 1)
def zM_x_next : zz_M := ("CinemaClock", prog_1_method_52_code, 4, (some .int), 0, false, 0, 0, 5)
def zM_x_dueMinute : zz_M := ("CinemaClock", prog_1_method_53_code, 4, (some .int), 0, false, 0, 0, 4)
def zM_x_calendarMinute : zz_M := ("CinemaClock", prog_1_method_54_code, 6, (some .int), 0, false, 0, 0, 3)
def zM_x_waiting : zz_M := ("CinemaClock", prog_1_method_55_code, 4, (some .int), 0, false, 0, 0, 1)
def zM_x_book : zz_M := ("CinemaClock", prog_1_method_56_code, 3, (some .int), 0, false, 0, 0, 1)
def zM_x_count : zz_M := ("CinemaClock", prog_1_method_57_code, 2, (some .int), 0, false, 0, 0, 0)
def zM_x_cell : zz_M := ("CinemaClock", prog_1_method_58_code, 2, (some .int), 0, false, 0, 0, 1)
def zM_x_day : zz_M := ("CinemaClock", prog_1_method_59_code, 5, (some .int), 0, false, 0, 0, 1)
def zM_x_idle : zz_M := ("CinemaClock", prog_1_method_60_code, 2, (some .int), 0, false, 0, 0, 1)
def zM_x_load : zz_M := ("CinemaClock", prog_1_method_61_code, 2, (some .int), 0, false, 0, 0, 1)
def zM_x_quiet : zz_M := ("CinemaClock", prog_1_method_62_code, 3, (some .int), 0, false, 0, 0, 5)
def zM_x_isWithin : zz_M := ("CinemaClock", prog_1_method_63_code, 3, (some .boolean), 0, true, 0, 0, 0)
def zM_x_taskAt : zz_M := ("CinemaClock", prog_1_method_64_code, 2, (some (.object "CinemaClock$Task")), 9, false, 0, 0, 1)
def zM_x_isActive : zz_M := ("CinemaClock", prog_1_method_65_code, 1, (some .boolean), 0, true, 0, 0, 1)
def zM_xD_new : zz_M := ("CinemaClock$Dues", prog_4_method_1_code, 1, none, 999, false, 4, 0, 1)
def zM_xD_add : zz_M := ("CinemaClock$Dues", prog_4_method_2_code, 3, none, 999, false, 0, 0, 0)
def zM_xD_remove : zz_M := ("CinemaClock$Dues", prog_4_method_3_code, 4, none, 999, false, 0, 0, 1)
def zM_xD_removeAll : zz_M := ("CinemaClock$Dues", prog_4_method_4_code, 4, none, 999, false, 0, 0, 0)
def zM_xD_clear : zz_M := ("CinemaClock$Dues", prog_4_method_5_code, 3, none, 999, false, 0, 0, 0)
def zM_xD_isAhead : zz_M := ("CinemaClock$Dues", prog_4_method_6_code, 5, (some .boolean), 0, true, 0, 0, 0)
def zM_xB_new : zz_M := ("CinemaClock$Book", prog_2_method_1_code, 1, none, 999, false, 5, 0, 1)
def zM_xB_add : zz_M := ("CinemaClock$Book", prog_2_method_2_code, 4, none, 999, false, 0, 0, 0)
def zM_xP_new : zz_M := ("CinemaClock$Plans", prog_6_method_1_code, 1, none, 999, false, 6, 0, 1)
def zM_xP_placeOf : zz_M := ("CinemaClock$Plans", prog_6_method_2_code, 4, (some .int), 0, false, 0, 0, 0)
def zM_xP_put : zz_M := ("CinemaClock$Plans", prog_6_method_3_code, 5, (some .boolean), 0, true, 0, 0, 1)
def zM_xP_kindOf : zz_M := ("CinemaClock$Plans", prog_6_method_4_code, 4, (some .int), 0, false, 0, 0, 1)
def zM_xT_new : zz_M := ("CinemaClock$Task", prog_8_method_1_code, 5, none, 999, false, 7, 0, 2)
def zM_xT_isActive : zz_M := ("CinemaClock$Task", prog_8_method_2_code, 1, (some .boolean), 0, true, 0, 0, 0)
def zM_xT_fireFor : zz_M := ("CinemaClock$Task", prog_8_method_3_code, 2, none, 999, false, 0, 0, 0)
def zM_xT_isFiredFor : zz_M := ("CinemaClock$Task", prog_8_method_4_code, 2, (some .boolean), 0, true, 0, 0, 0)
def zM_xT_step : zz_M := ("CinemaClock$Task", prog_8_method_5_code, 1, (some .int), 0, false, 0, 0, 1)
def zM_xT_firstOfRate : zz_M := ("CinemaClock$Task", prog_8_method_6_code, 3, (some .int), 0, false, 0, 0, 2)
def zM_xC_new : zz_M := ("CinemaClock$Calendar", prog_3_method_1_code, 1, none, 999, false, 8, 0, 1)
def zM_xC_isForm : zz_M := ("CinemaClock$Calendar", prog_3_method_2_code, 3, (some .boolean), 0, true, 0, 0, 1)
def zM_xC_add : zz_M := ("CinemaClock$Calendar", prog_3_method_3_code, 4, none, 999, false, 0, 0, 1)
def zM_xC_ring : zz_M := ("CinemaClock$Calendar", prog_3_method_4_code, 6, (some .int), 0, false, 0, 0, 0)
def zM_xC_fits : zz_M := ("CinemaClock$Calendar", prog_3_method_5_code, 2, (some .boolean), 0, true, 0, 0, 2)
def zM_xC_minuteFits : zz_M := ("CinemaClock$Calendar", prog_3_method_6_code, 2, (some .boolean), 0, true, 0, 0, 0)
def zM_xC_hourFits : zz_M := ("CinemaClock$Calendar", prog_3_method_7_code, 2, (some .boolean), 0, true, 0, 0, 0)
def zM_xC_dayFits : zz_M := ("CinemaClock$Calendar", prog_3_method_8_code, 4, (some .boolean), 0, true, 0, 0, 1)
def zM_xC_firstFit : zz_M := ("CinemaClock$Calendar", prog_3_method_9_code, 4, (some .int), 0, false, 0, 0, 2)
def zM_xC_monthOf : zz_M := ("CinemaClock$Calendar", prog_3_method_10_code, 2, (some .int), 0, false, 0, 0, 0)
def zM_xN_new : zz_M := ("CinemaClock$Notes", prog_5_method_1_code, 1, none, 999, false, 9, 0, 1)
def zM_xN_add : zz_M := ("CinemaClock$Notes", prog_5_method_2_code, 3, none, 999, false, 0, 0, 0)
def zM_xN_fit : zz_M := ("CinemaClock$Notes", prog_5_method_3_code, 4, (some .boolean), 0, true, 0, 0, 0)
def zM_xR_new : zz_M := ("CinemaClock$Run", prog_7_method_1_code, 6, none, 999, false, 10, 0, 1)
def zM_m_new : zz_M := ("CinemaClockModel", prog_10_method_1_code, 2, none, 999, false, 40, 1, 1)
def zM_m_in : zz_M := ("CinemaClockModel", prog_10_method_2_code, 3, (some .boolean), 0, true, 0, 1, 0)
def zM_m_isTask : zz_M := ("CinemaClockModel", prog_10_method_3_code, 2, (some .boolean), 0, true, 0, 1, 1)
def zM_m_isActive : zz_M := ("CinemaClockModel", prog_10_method_4_code, 2, (some .boolean), 0, true, 0, 1, 0)
def zM_m_atWork : zz_M := ("CinemaClockModel", prog_10_method_5_code, 3, (some .int), 0, false, 0, 1, 0)
def zM_m_isRunning : zz_M := ("CinemaClockModel", prog_10_method_6_code, 3, (some .boolean), 0, true, 0, 1, 0)
def zM_m_loadOf : zz_M := ("CinemaClockModel", prog_10_method_7_code, 4, (some .int), 0, false, 0, 1, 0)
def zM_m_duesOf : zz_M := ("CinemaClockModel", prog_10_method_8_code, 4, (some .int), 0, false, 0, 1, 0)
def zM_m_monthLength : zz_M := ("CinemaClockModel", prog_10_method_9_code, 1, (some .int), 0, false, 0, 1, 0)
def zM_m_look : zz_M := ("CinemaClockModel", prog_10_method_10_code, 3, none, 999, false, 0, 1, 1)
def zM_m_fitsDay : zz_M := ("CinemaClockModel", prog_10_method_11_code, 6, (some .boolean), 0, true, 0, 1, 1)
def zM_m_fitsMinute : zz_M := ("CinemaClockModel", prog_10_method_12_code, 5, (some .boolean), 0, true, 0, 1, 1)
def zM_m_fits : zz_M := ("CinemaClockModel", prog_10_method_13_code, 3, (some .boolean), 0, true, 0, 1, 2)
def zM_m_hasMinute : zz_M := ("CinemaClockModel", prog_10_method_14_code, 3, (some .boolean), 0, true, 0, 1, 2)
def zM_m_dueFrom : zz_M := ("CinemaClockModel", prog_10_method_15_code, 5, (some .int), 0, false, 0, 1, 4)
def zM_m_calendarFrom : zz_M := ("CinemaClockModel", prog_10_method_16_code, 6, (some .int), 0, false, 0, 1, 3)
def zM_m_books : zz_M := ("CinemaClockModel", prog_10_method_17_code, 4, none, 999, false, 0, 1, 0)
def zM_m_dueGone : zz_M := ("CinemaClockModel", prog_10_method_18_code, 3, none, 999, false, 0, 1, 0)
def zM_m_comes : zz_M := ("CinemaClockModel", prog_10_method_19_code, 3, none, 999, false, 0, 1, 1)
def zM_m_takeDue : zz_M := ("CinemaClockModel", prog_10_method_20_code, 3, none, 999, false, 0, 1, 0)
def zM_m_dropDues : zz_M := ("CinemaClockModel", prog_10_method_21_code, 3, none, 999, false, 0, 1, 1)
def zM_m_notes : zz_M := ("CinemaClockModel", prog_10_method_22_code, 7, none, 999, false, 0, 1, 2)
def zM_m_frees : zz_M := ("CinemaClockModel", prog_10_method_23_code, 4, none, 999, false, 0, 1, 0)
def zM_m_interrupts : zz_M := ("CinemaClockModel", prog_10_method_24_code, 5, none, 999, false, 0, 1, 3)
def zM_m_planned : zz_M := ("CinemaClockModel", prog_10_method_25_code, 4, (some .int), 0, false, 0, 1, 0)
def zM_m_does : zz_M := ("CinemaClockModel", prog_10_method_26_code, 6, (some .int), 0, false, 0, 1, 2)
def zM_m_ends : zz_M := ("CinemaClockModel", prog_10_method_27_code, 7, none, 999, false, 0, 1, 3)
def zM_m_failed : zz_M := ("CinemaClockModel", prog_10_method_28_code, 4, none, 999, false, 0, 1, 2)
def zM_m_treat : zz_M := ("CinemaClockModel", prog_10_method_29_code, 3, none, 999, false, 0, 1, 4)
def zM_m_isDue : zz_M := ("CinemaClockModel", prog_10_method_30_code, 3, (some .boolean), 0, true, 0, 1, 3)
def zM_m_misses : zz_M := ("CinemaClockModel", prog_10_method_31_code, 6, none, 999, false, 0, 1, 1)
def zM_m_canBegin : zz_M := ("CinemaClockModel", prog_10_method_32_code, 2, (some .boolean), 0, true, 0, 1, 1)
def zM_m_begins : zz_M := ("CinemaClockModel", prog_10_method_33_code, 6, (some .boolean), 0, true, 0, 1, 2)
def zM_m_isAhead : zz_M := ("CinemaClockModel", prog_10_method_34_code, 5, (some .boolean), 0, true, 0, 1, 0)
def zM_m_clock : zz_M := ("CinemaClockModel", prog_10_method_35_code, 2, (some .int), 0, false, 0, 1, 5)
def zM_m_workers : zz_M := ("CinemaClockModel", prog_10_method_36_code, 3, (some .int), 0, false, 0, 1, 1)
def zM_m_group : zz_M := ("CinemaClockModel", prog_10_method_37_code, 2, (some .int), 0, false, 0, 1, 1)
def zM_m_task : zz_M := ("CinemaClockModel", prog_10_method_38_code, 5, (some .int), 0, false, 0, 1, 1)
def zM_m_set : zz_M := ("CinemaClockModel", prog_10_method_39_code, 5, (some .int), 0, false, 0, 1, 2)
def zM_m_isForm : zz_M := ("CinemaClockModel", prog_10_method_40_code, 3, (some .boolean), 0, true, 0, 1, 1)
def zM_m_calendar : zz_M := ("CinemaClockModel", prog_10_method_41_code, 6, (some .int), 0, false, 0, 1, 2)
def zM_m_body : zz_M := ("CinemaClockModel", prog_10_method_42_code, 6, (some .int), 0, false, 0, 1, 2)
def zM_m_leads : zz_M := ("CinemaClockModel", prog_10_method_43_code, 6, (some .boolean), 0, true, 0, 1, 0)
def zM_m_after : zz_M := ("CinemaClockModel", prog_10_method_44_code, 4, (some .int), 0, false, 0, 1, 2)
def zM_m_plan : zz_M := ("CinemaClockModel", prog_10_method_45_code, 5, (some .int), 0, false, 0, 1, 2)
def zM_m_clearPlan : zz_M := ("CinemaClockModel", prog_10_method_46_code, 2, (some .int), 0, false, 0, 1, 0)
def zM_m_jump : zz_M := ("CinemaClockModel", prog_10_method_47_code, 6, (some .int), 0, false, 0, 1, 3)
def zM_m_cancel : zz_M := ("CinemaClockModel", prog_10_method_48_code, 3, (some .int), 0, false, 0, 1, 4)
def zM_m_stop : zz_M := ("CinemaClockModel", prog_10_method_49_code, 3, (some .int), 0, false, 0, 1, 4)
def zM_m_go : zz_M := ("CinemaClockModel", prog_10_method_50_code, 1, (some .int), 0, false, 0, 1, 0)
def zM_m_run : zz_M := ("CinemaClockModel", prog_10_method_51_code, 3, (some .int), 0, false, 0, 1, 1)
def zM_m_of : zz_M := ("CinemaClockModel", prog_10_method_52_code, 3, (some .int), 0, false, 0, 1, 2)
def zM_m_next : zz_M := ("CinemaClockModel", prog_10_method_53_code, 5, (some .int), 0, false, 0, 1, 5)
def zM_m_waiting : zz_M := ("CinemaClockModel", prog_10_method_54_code, 3, (some .int), 0, false, 0, 1, 1)
def zM_m_book : zz_M := ("CinemaClockModel", prog_10_method_55_code, 3, (some .int), 0, false, 0, 1, 1)
def zM_m_count : zz_M := ("CinemaClockModel", prog_10_method_56_code, 2, (some .int), 0, false, 0, 1, 1)
def zM_m_cell : zz_M := ("CinemaClockModel", prog_10_method_57_code, 2, (some .int), 0, false, 0, 1, 1)
def zM_m_day : zz_M := ("CinemaClockModel", prog_10_method_58_code, 3, (some .int), 0, false, 0, 1, 2)
def zM_m_idle : zz_M := ("CinemaClockModel", prog_10_method_59_code, 2, (some .int), 0, false, 0, 1, 1)
def zM_m_load : zz_M := ("CinemaClockModel", prog_10_method_60_code, 2, (some .int), 0, false, 0, 1, 1)
def zM_m_quiet : zz_M := ("CinemaClockModel", prog_10_method_61_code, 2, (some .int), 0, false, 0, 1, 5)
def zM_j_max : zz_M := ("java/lang/Math", prog_11_method_65_code, 2, (some .int), 0, false, 0, 0, 0)
def zM_j_min : zz_M := ("java/lang/Math", prog_11_method_69_code, 2, (some .int), 0, false, 0, 0, 0)
def zM_j_floorMod : zz_M := ("java/lang/Math", prog_11_method_50_code, 3, (some .int), 0, false, 0, 0, 0)
def zM_l_law : zz_M := ("CinemaClockLaw", code, 4, (some .boolean), 0, true, 0, 2, 8)
def zz_infs : List zz_I := [(yX7_init, zM_x_new, [1003], (86, 72, 85, 0)),
  (yX7_workers, zM_x_workers, [5, 0], (227, 72, 225, 226)),
  (yX7_group, zM_x_group, [5, 0], (234, 72, 232, 233)),
  (yX7_task, zM_x_task, [5, 0, 0, 0], (238, 72, 236, 237)),
  (yX7_set, zM_x_set, [5, 0, 0, 0], (384, 72, 382, 383)),
  (yX7_leastTold, zM_x_leastTold, [0], (391, 72, 390, 0)),
  (yX7_mostTold, zM_x_mostTold, [5, 0], (395, 72, 394, 1)),
  (yX7_calendar, zM_x_calendar, [5, 0, 0, 0, 0], (399, 72, 397, 398)),
  (yX7_body, zM_x_body, [5, 0, 0, 0, 0], (416, 72, 414, 415)),
  (yX7_after, zM_x_after, [5, 0, 0, 0], (420, 72, 418, 419)),
  (yX7_comesAfter, zM_x_comesAfter, [5, 0, 0], (424, 72, 423, 2)),
  (yX7_link, zM_x_link, [5, 0, 0], (428, 72, 427, 3)),
  (yX7_plan, zM_x_plan, [5, 0, 0, 0], (436, 72, 434, 435)),
  (yX7_clearPlan, zM_x_clearPlan, [5], (451, 72, 449, 450)),
  (yX7_clock, zM_x_clock, [5, 0], (455, 72, 453, 454)),
  (yX7_treatMinute, zM_x_treatMinute, [5], (462, 72, 461, 5)),
  (yX7_endRuns, zM_x_endRuns, [5], (466, 72, 465, 6)),
  (yX7_firstEnding, zM_x_firstEnding, [5], (470, 72, 469, 7)),
  (yX7_endRun, zM_x_endRun, [5, 12], (474, 72, 473, 8)),
  (yX7_act, zM_x_act, [5, 12], (482, 72, 481, 9)),
  (yX7_followEnd, zM_x_followEnd, [5, 9, 0], (506, 72, 505, 12)),
  (yX7_restAfter, zM_x_restAfter, [0], (509, 72, 508, 0)),
  (yX7_layDown, zM_x_layDown, [5, 12, 0], (502, 72, 501, 11)),
  (yX7_tellAfters, zM_x_tellAfters, [5, 9, 0], (514, 72, 513, 13)),
  (yX7_bringDues, zM_x_bringDues, [5], (545, 72, 544, 17)),
  (yX7_isDueByKind, zM_x_isDueByKind, [5, 9, 0], (549, 72, 548, 18)),
  (yX7_comeDue, zM_x_comeDue, [5, 9], (525, 72, 524, 14)),
  (yX7_fateOfDue, zM_x_fateOfDue, [5, 9], (529, 72, 528, 15)),
  (yX7_pauseAgain, zM_x_pauseAgain, [5, 9], (541, 72, 540, 16)),
  (yX7_missDues, zM_x_missDues, [5], (586, 72, 585, 22)),
  (yX7_isMissed, zM_x_isMissed, [5, 9, 0], (590, 72, 589, 23)),
  (yX7_missDue, zM_x_missDue, [5, 9, 0], (594, 72, 593, 24)),
  (yX7_beginRuns, zM_x_beginRuns, [5], (603, 72, 602, 25)),
  (yX7_freeWorker, zM_x_freeWorker, [5], (607, 72, 606, 26)),
  (yX7_firstToBegin, zM_x_firstToBegin, [5], (611, 72, 610, 27)),
  (yX7_mayBegin, zM_x_mayBegin, [5, 9], (615, 72, 614, 28)),
  (yX7_workIn, zM_x_workIn, [5, 0], (619, 72, 618, 29)),
  (yX7_beginRun, zM_x_beginRun, [5, 0, 0], (627, 72, 626, 30)),
  (yX7_jump, zM_x_jump, [5, 0], (681, 72, 679, 680)),
  (yX7_jumpOver, zM_x_jumpOver, [5, 0, 0], (685, 72, 684, 31)),
  (yX7_missJumped, zM_x_missJumped, [5, 9, 0, 0], (689, 72, 688, 32)),
  (yX7_cancel, zM_x_cancel, [5, 0, 0], (699, 72, 697, 698)),
  (yX7_leave, zM_x_leave, [5, 9, 0], (490, 72, 489, 10)),
  (yX7_interruptRuns, zM_x_interruptRuns, [5, 9], (703, 72, 702, 33)),
  (yX7_firstAtWork, zM_x_firstAtWork, [5, 9], (707, 72, 706, 34)),
  (yX7_stop, zM_x_stop, [5, 0], (711, 72, 709, 710)),
  (yX7_dropDues, zM_x_dropDues, [5], (715, 72, 714, 35)),
  (yX7_go, zM_x_go, [5], (723, 72, 721, 722)),
  (yX7_run, zM_x_run, [5, 0, 0], (727, 72, 725, 726)),
  (yX7_of, zM_x_of, [5, 0, 0], (731, 72, 729, 730)),
  (yX7_stateOf, zM_x_stateOf, [5, 9], (735, 72, 734, 36)),
  (yX7_next, zM_x_next, [5, 0, 0], (739, 72, 737, 738)),
  (yX7_dueMinute, zM_x_dueMinute, [5, 9, 0], (743, 72, 742, 37)),
  (yX7_calendarMinute, zM_x_calendarMinute, [5, 10, 0], (752, 72, 751, 38)),
  (yX7_waiting, zM_x_waiting, [5, 0, 0], (756, 72, 754, 755)),
  (yX7_book, zM_x_book, [5, 0, 0], (760, 72, 758, 759)),
  (yX7_count, zM_x_count, [5, 0], (764, 72, 762, 763)),
  (yX7_cell, zM_x_cell, [5, 0], (768, 72, 766, 767)),
  (yX7_day, zM_x_day, [5, 0, 0], (772, 72, 770, 771)),
  (yX7_idle, zM_x_idle, [5, 0], (779, 72, 777, 778)),
  (yX7_load, zM_x_load, [5, 0], (783, 72, 781, 782)),
  (yX7_quiet, zM_x_quiet, [5], (787, 72, 785, 786)),
  (yX7_isWithin, zM_x_isWithin, [0, 0, 0], (230, 72, 229, 0)),
  (yX7_taskAt, zM_x_taskAt, [5, 0], (388, 72, 387, 0)),
  (yX7_isActive, zM_x_isActive, [9], (517, 72, 516, 0)),
  (yX2_init, zM_xD_new, [1004], (98, 73, 97, 0)),
  (yX2_add, zM_xD_add, [6, 9, 0], (533, 73, 531, 532)),
  (yX2_remove, zM_xD_remove, [6, 0], (598, 73, 596, 597)),
  (yX2_removeAll, zM_xD_removeAll, [6, 9], (494, 73, 492, 493)),
  (yX2_clear, zM_xD_clear, [6], (719, 73, 717, 718)),
  (yX2_isAhead, zM_xD_isAhead, [6, 0, 0], (623, 73, 621, 622)),
  (yX0_init, zM_xB_new, [1005], (124, 74, 123, 0)),
  (yX0_add, zM_xB_add, [7, 0, 0, 0], (537, 74, 535, 536)),
  (yX4_init, zM_xP_new, [1006], (147, 75, 146, 0)),
  (yX4_placeOf, zM_xP_placeOf, [8, 0, 0], (444, 75, 443, 4)),
  (yX4_put, zM_xP_put, [8, 0, 0, 0], (440, 75, 438, 439)),
  (yX4_kindOf, zM_xP_kindOf, [8, 0, 0], (478, 75, 476, 477)),
  (yX6_init, zM_xT_new, [1007, 0, 0, 0, 0], (244, 77, 243, 0)),
  (yX6_isActive, zM_xT_isActive, [9], (486, 77, 484, 485)),
  (yX6_fireFor, zM_xT_fireFor, [9, 0], (498, 77, 496, 497)),
  (yX6_isFiredFor, zM_xT_isFiredFor, [9, 0], (582, 77, 580, 581)),
  (yX6_step, zM_xT_step, [9], (553, 77, 551, 552)),
  (yX6_firstOfRate, zM_xT_firstOfRate, [9, 0], (747, 77, 745, 746)),
  (yX1_init, zM_xC_new, [1008], (250, 78, 249, 0)),
  (yX1_isForm, zM_xC_isForm, [0, 0, 0], (402, 78, 401, 0)),
  (yX1_add, zM_xC_add, [10, 0, 0, 0], (409, 78, 407, 408)),
  (yX1_ring, zM_xC_ring, [0, 0, 0], (412, 78, 411, 0)),
  (yX1_fits, zM_xC_fits, [10, 0], (561, 78, 559, 560)),
  (yX1_minuteFits, zM_xC_minuteFits, [10, 0], (565, 78, 564, 19)),
  (yX1_hourFits, zM_xC_hourFits, [10, 0], (569, 78, 568, 20)),
  (yX1_dayFits, zM_xC_dayFits, [10, 0], (573, 78, 572, 21)),
  (yX1_firstFit, zM_xC_firstFit, [10, 0, 0], (693, 78, 691, 692)),
  (yX1_monthOf, zM_xC_monthOf, [0], (576, 78, 575, 0)),
  (yX3_init, zM_xN_new, [1009], (283, 79, 282, 0)),
  (yX3_add, zM_xN_add, [11, 0, 0], (432, 79, 430, 431)),
  (yX3_fit, zM_xN_fit, [11, 0, 0], (521, 79, 519, 520)),
  (yX5_init, zM_xR_new, [1010, 0, 9, 0, 0, 0], (631, 81, 630, 0)),
  (yX8_init, zM_m_new, [1040], (792, 76, 791, 0)),
  (yX8_in, zM_m_in, [0, 0, 0], (1023, 76, 1022, 0)),
  (yX8_isTask, zM_m_isTask, [42, 0], (1020, 76, 1019, 43)),
  (yX8_isActive, zM_m_isActive, [42, 0], (1027, 76, 1026, 44)),
  (yX8_atWork, zM_m_atWork, [42], (1102, 76, 1101, 62)),
  (yX8_isRunning, zM_m_isRunning, [42, 0], (1063, 76, 1062, 53)),
  (yX8_loadOf, zM_m_loadOf, [42, 0], (1110, 76, 1109, 64)),
  (yX8_duesOf, zM_m_duesOf, [42, 0], (1094, 76, 1093, 60)),
  (yX8_monthLength, zM_m_monthLength, [0], (1082, 76, 1081, 0)),
  (yX8_look, zM_m_look, [42, 0], (1079, 76, 1078, 57)),
  (yX8_fitsDay, zM_m_fitsDay, [42, 0], (1086, 76, 1085, 58)),
  (yX8_fitsMinute, zM_m_fitsMinute, [42, 0, 0], (1075, 76, 1074, 56)),
  (yX8_fits, zM_m_fits, [42, 0, 0], (1071, 76, 1070, 55)),
  (yX8_hasMinute, zM_m_hasMinute, [42, 0], (1202, 76, 1201, 70)),
  (yX8_dueFrom, zM_m_dueFrom, [42, 0, 0], (1194, 76, 1193, 68)),
  (yX8_calendarFrom, zM_m_calendarFrom, [42, 0, 0], (1198, 76, 1197, 69)),
  (yX8_books, zM_m_books, [42, 0, 0, 0], (1055, 76, 1054, 51)),
  (yX8_dueGone, zM_m_dueGone, [42, 0, 0], (1059, 76, 1058, 52)),
  (yX8_comes, zM_m_comes, [42, 0, 0], (1051, 76, 1050, 50)),
  (yX8_takeDue, zM_m_takeDue, [42, 0], (1035, 76, 1034, 46)),
  (yX8_dropDues, zM_m_dropDues, [42, 0], (1031, 76, 1030, 45)),
  (yX8_notes, zM_m_notes, [42, 0, 0, 0], (1047, 76, 1046, 49)),
  (yX8_frees, zM_m_frees, [42, 0, 0, 0], (1039, 76, 1038, 47)),
  (yX8_interrupts, zM_m_interrupts, [42, 0, 0], (1170, 76, 1169, 67)),
  (yX8_planned, zM_m_planned, [42, 0, 0], (1012, 76, 1011, 41)),
  (yX8_does, zM_m_does, [42, 0, 0, 0], (1016, 76, 1015, 42)),
  (yX8_ends, zM_m_ends, [42, 0, 0], (1008, 76, 1007, 40)),
  (yX8_failed, zM_m_failed, [42, 0, 0], (1043, 76, 1042, 48)),
  (yX8_treat, zM_m_treat, [42, 0], (1004, 76, 1003, 39)),
  (yX8_isDue, zM_m_isDue, [42, 0, 0], (1067, 76, 1066, 54)),
  (yX8_misses, zM_m_misses, [42, 0], (1090, 76, 1089, 59)),
  (yX8_canBegin, zM_m_canBegin, [42, 0], (1106, 76, 1105, 63)),
  (yX8_begins, zM_m_begins, [42, 0], (1098, 76, 1097, 61)),
  (yX8_isAhead, zM_m_isAhead, [42, 0, 0], (1114, 76, 1113, 65)),
  (yX8_clock, zM_m_clock, [42, 0], (999, 76, 997, 998)),
  (yX8_workers, zM_m_workers, [42, 0], (1118, 76, 1116, 1117)),
  (yX8_group, zM_m_group, [42, 0], (1122, 76, 1120, 1121)),
  (yX8_task, zM_m_task, [42, 0, 0, 0], (1126, 76, 1124, 1125)),
  (yX8_set, zM_m_set, [42, 0, 0, 0], (1131, 76, 1129, 1130)),
  (yX8_isForm, zM_m_isForm, [0, 0, 0], (1138, 76, 1137, 0)),
  (yX8_calendar, zM_m_calendar, [42, 0, 0, 0, 0], (1135, 76, 1133, 1134)),
  (yX8_body, zM_m_body, [42, 0, 0, 0, 0], (1142, 76, 1140, 1141)),
  (yX8_leads, zM_m_leads, [42, 0, 0], (1150, 76, 1149, 66)),
  (yX8_after, zM_m_after, [42, 0, 0, 0], (1146, 76, 1144, 1145)),
  (yX8_plan, zM_m_plan, [42, 0, 0, 0], (1154, 76, 1152, 1153)),
  (yX8_clearPlan, zM_m_clearPlan, [42], (1158, 76, 1156, 1157)),
  (yX8_jump, zM_m_jump, [42, 0], (1162, 76, 1160, 1161)),
  (yX8_cancel, zM_m_cancel, [42, 0, 0], (1166, 76, 1164, 1165)),
  (yX8_stop, zM_m_stop, [42, 0], (1174, 76, 1172, 1173)),
  (yX8_go, zM_m_go, [42], (1178, 76, 1176, 1177)),
  (yX8_run, zM_m_run, [42, 0, 0], (1182, 76, 1180, 1181)),
  (yX8_of, zM_m_of, [42, 0, 0], (1186, 76, 1184, 1185)),
  (yX8_next, zM_m_next, [42, 0, 0], (1190, 76, 1188, 1189)),
  (yX8_waiting, zM_m_waiting, [42, 0, 0], (1206, 76, 1204, 1205)),
  (yX8_book, zM_m_book, [42, 0, 0], (1210, 76, 1208, 1209)),
  (yX8_count, zM_m_count, [42, 0], (1214, 76, 1212, 1213)),
  (yX8_cell, zM_m_cell, [42, 0], (1218, 76, 1216, 1217)),
  (yX8_day, zM_m_day, [42, 0, 0], (1222, 76, 1220, 1221)),
  (yX8_idle, zM_m_idle, [42, 0], (1227, 76, 1225, 1226)),
  (yX8_load, zM_m_load, [42, 0], (1231, 76, 1229, 1230)),
  (yX8_quiet, zM_m_quiet, [42], (1235, 76, 1233, 1234)),
  (jy_max, zM_j_max, [0, 0], (447, 80, 446, 0)),
  (jy_min, zM_j_min, [0, 0], (458, 80, 457, 0)),
  (jy_floorMod, zM_j_floorMod, [0, 0], (557, 80, 556, 0))]
def zz_inf (i : Nat) : Option zz_I := zz_infs[i - 10]?
theorem zi_x_new : zz_inf 10 = some (yX7_init, zM_x_new, [1003], (86, 72, 85, 0)) := rfl
theorem zi_x_workers : zz_inf 11 = some (yX7_workers, zM_x_workers, [5, 0], (227, 72, 225, 226)) := rfl
theorem zi_x_group : zz_inf 12 = some (yX7_group, zM_x_group, [5, 0], (234, 72, 232, 233)) := rfl
theorem zi_x_task : zz_inf 13 = some (yX7_task, zM_x_task, [5, 0, 0, 0], (238, 72, 236, 237)) := rfl
theorem zi_x_set : zz_inf 14 = some (yX7_set, zM_x_set, [5, 0, 0, 0], (384, 72, 382, 383)) := rfl
theorem zi_x_leastTold : zz_inf 15 = some (yX7_leastTold, zM_x_leastTold, [0], (391, 72, 390, 0)) := rfl
theorem zi_x_mostTold : zz_inf 16 = some (yX7_mostTold, zM_x_mostTold, [5, 0], (395, 72, 394, 1)) := rfl
theorem zi_x_calendar : zz_inf 17 = some (yX7_calendar, zM_x_calendar, [5, 0, 0, 0, 0], (399, 72, 397, 398)) := rfl
theorem zi_x_body : zz_inf 18 = some (yX7_body, zM_x_body, [5, 0, 0, 0, 0], (416, 72, 414, 415)) := rfl
theorem zi_x_after : zz_inf 19 = some (yX7_after, zM_x_after, [5, 0, 0, 0], (420, 72, 418, 419)) := rfl
theorem zi_x_comesAfter : zz_inf 20 = some (yX7_comesAfter, zM_x_comesAfter, [5, 0, 0], (424, 72, 423, 2)) := rfl
theorem zi_x_link : zz_inf 21 = some (yX7_link, zM_x_link, [5, 0, 0], (428, 72, 427, 3)) := rfl
theorem zi_x_plan : zz_inf 22 = some (yX7_plan, zM_x_plan, [5, 0, 0, 0], (436, 72, 434, 435)) := rfl
theorem zi_x_clearPlan : zz_inf 23 = some (yX7_clearPlan, zM_x_clearPlan, [5], (451, 72, 449, 450)) := rfl
theorem zi_x_clock : zz_inf 24 = some (yX7_clock, zM_x_clock, [5, 0], (455, 72, 453, 454)) := rfl
theorem zi_x_treatMinute : zz_inf 25 = some (yX7_treatMinute, zM_x_treatMinute, [5], (462, 72, 461, 5)) := rfl
theorem zi_x_endRuns : zz_inf 26 = some (yX7_endRuns, zM_x_endRuns, [5], (466, 72, 465, 6)) := rfl
theorem zi_x_firstEnding : zz_inf 27 = some (yX7_firstEnding, zM_x_firstEnding, [5], (470, 72, 469, 7)) := rfl
theorem zi_x_endRun : zz_inf 28 = some (yX7_endRun, zM_x_endRun, [5, 12], (474, 72, 473, 8)) := rfl
theorem zi_x_act : zz_inf 29 = some (yX7_act, zM_x_act, [5, 12], (482, 72, 481, 9)) := rfl
theorem zi_x_followEnd : zz_inf 30 = some (yX7_followEnd, zM_x_followEnd, [5, 9, 0], (506, 72, 505, 12)) := rfl
theorem zi_x_restAfter : zz_inf 31 = some (yX7_restAfter, zM_x_restAfter, [0], (509, 72, 508, 0)) := rfl
theorem zi_x_layDown : zz_inf 32 = some (yX7_layDown, zM_x_layDown, [5, 12, 0], (502, 72, 501, 11)) := rfl
theorem zi_x_tellAfters : zz_inf 33 = some (yX7_tellAfters, zM_x_tellAfters, [5, 9, 0], (514, 72, 513, 13)) := rfl
theorem zi_x_bringDues : zz_inf 34 = some (yX7_bringDues, zM_x_bringDues, [5], (545, 72, 544, 17)) := rfl
theorem zi_x_isDueByKind : zz_inf 35 = some (yX7_isDueByKind, zM_x_isDueByKind, [5, 9, 0], (549, 72, 548, 18)) := rfl
theorem zi_x_comeDue : zz_inf 36 = some (yX7_comeDue, zM_x_comeDue, [5, 9], (525, 72, 524, 14)) := rfl
theorem zi_x_fateOfDue : zz_inf 37 = some (yX7_fateOfDue, zM_x_fateOfDue, [5, 9], (529, 72, 528, 15)) := rfl
theorem zi_x_pauseAgain : zz_inf 38 = some (yX7_pauseAgain, zM_x_pauseAgain, [5, 9], (541, 72, 540, 16)) := rfl
theorem zi_x_missDues : zz_inf 39 = some (yX7_missDues, zM_x_missDues, [5], (586, 72, 585, 22)) := rfl
theorem zi_x_isMissed : zz_inf 40 = some (yX7_isMissed, zM_x_isMissed, [5, 9, 0], (590, 72, 589, 23)) := rfl
theorem zi_x_missDue : zz_inf 41 = some (yX7_missDue, zM_x_missDue, [5, 9, 0], (594, 72, 593, 24)) := rfl
theorem zi_x_beginRuns : zz_inf 42 = some (yX7_beginRuns, zM_x_beginRuns, [5], (603, 72, 602, 25)) := rfl
theorem zi_x_freeWorker : zz_inf 43 = some (yX7_freeWorker, zM_x_freeWorker, [5], (607, 72, 606, 26)) := rfl
theorem zi_x_firstToBegin : zz_inf 44 = some (yX7_firstToBegin, zM_x_firstToBegin, [5], (611, 72, 610, 27)) := rfl
theorem zi_x_mayBegin : zz_inf 45 = some (yX7_mayBegin, zM_x_mayBegin, [5, 9], (615, 72, 614, 28)) := rfl
theorem zi_x_workIn : zz_inf 46 = some (yX7_workIn, zM_x_workIn, [5, 0], (619, 72, 618, 29)) := rfl
theorem zi_x_beginRun : zz_inf 47 = some (yX7_beginRun, zM_x_beginRun, [5, 0, 0], (627, 72, 626, 30)) := rfl
theorem zi_x_jump : zz_inf 48 = some (yX7_jump, zM_x_jump, [5, 0], (681, 72, 679, 680)) := rfl
theorem zi_x_jumpOver : zz_inf 49 = some (yX7_jumpOver, zM_x_jumpOver, [5, 0, 0], (685, 72, 684, 31)) := rfl
theorem zi_x_missJumped : zz_inf 50 = some (yX7_missJumped, zM_x_missJumped, [5, 9, 0, 0], (689, 72, 688, 32)) := rfl
theorem zi_x_cancel : zz_inf 51 = some (yX7_cancel, zM_x_cancel, [5, 0, 0], (699, 72, 697, 698)) := rfl
theorem zi_x_leave : zz_inf 52 = some (yX7_leave, zM_x_leave, [5, 9, 0], (490, 72, 489, 10)) := rfl
theorem zi_x_interruptRuns : zz_inf 53 = some (yX7_interruptRuns, zM_x_interruptRuns, [5, 9], (703, 72, 702, 33)) := rfl
theorem zi_x_firstAtWork : zz_inf 54 = some (yX7_firstAtWork, zM_x_firstAtWork, [5, 9], (707, 72, 706, 34)) := rfl
theorem zi_x_stop : zz_inf 55 = some (yX7_stop, zM_x_stop, [5, 0], (711, 72, 709, 710)) := rfl
theorem zi_x_dropDues : zz_inf 56 = some (yX7_dropDues, zM_x_dropDues, [5], (715, 72, 714, 35)) := rfl
theorem zi_x_go : zz_inf 57 = some (yX7_go, zM_x_go, [5], (723, 72, 721, 722)) := rfl
theorem zi_x_run : zz_inf 58 = some (yX7_run, zM_x_run, [5, 0, 0], (727, 72, 725, 726)) := rfl
theorem zi_x_of : zz_inf 59 = some (yX7_of, zM_x_of, [5, 0, 0], (731, 72, 729, 730)) := rfl
theorem zi_x_stateOf : zz_inf 60 = some (yX7_stateOf, zM_x_stateOf, [5, 9], (735, 72, 734, 36)) := rfl
theorem zi_x_next : zz_inf 61 = some (yX7_next, zM_x_next, [5, 0, 0], (739, 72, 737, 738)) := rfl
theorem zi_x_dueMinute : zz_inf 62 = some (yX7_dueMinute, zM_x_dueMinute, [5, 9, 0], (743, 72, 742, 37)) := rfl
theorem zi_x_calendarMinute : zz_inf 63 = some (yX7_calendarMinute, zM_x_calendarMinute, [5, 10, 0], (752, 72, 751, 38)) := rfl
theorem zi_x_waiting : zz_inf 64 = some (yX7_waiting, zM_x_waiting, [5, 0, 0], (756, 72, 754, 755)) := rfl
theorem zi_x_book : zz_inf 65 = some (yX7_book, zM_x_book, [5, 0, 0], (760, 72, 758, 759)) := rfl
theorem zi_x_count : zz_inf 66 = some (yX7_count, zM_x_count, [5, 0], (764, 72, 762, 763)) := rfl
theorem zi_x_cell : zz_inf 67 = some (yX7_cell, zM_x_cell, [5, 0], (768, 72, 766, 767)) := rfl
theorem zi_x_day : zz_inf 68 = some (yX7_day, zM_x_day, [5, 0, 0], (772, 72, 770, 771)) := rfl
theorem zi_x_idle : zz_inf 69 = some (yX7_idle, zM_x_idle, [5, 0], (779, 72, 777, 778)) := rfl
theorem zi_x_load : zz_inf 70 = some (yX7_load, zM_x_load, [5, 0], (783, 72, 781, 782)) := rfl
theorem zi_x_quiet : zz_inf 71 = some (yX7_quiet, zM_x_quiet, [5], (787, 72, 785, 786)) := rfl
theorem zi_x_isWithin : zz_inf 72 = some (yX7_isWithin, zM_x_isWithin, [0, 0, 0], (230, 72, 229, 0)) := rfl
theorem zi_x_taskAt : zz_inf 73 = some (yX7_taskAt, zM_x_taskAt, [5, 0], (388, 72, 387, 0)) := rfl
theorem zi_x_isActive : zz_inf 74 = some (yX7_isActive, zM_x_isActive, [9], (517, 72, 516, 0)) := rfl
theorem zi_xD_new : zz_inf 75 = some (yX2_init, zM_xD_new, [1004], (98, 73, 97, 0)) := rfl
theorem zi_xD_add : zz_inf 76 = some (yX2_add, zM_xD_add, [6, 9, 0], (533, 73, 531, 532)) := rfl
theorem zi_xD_remove : zz_inf 77 = some (yX2_remove, zM_xD_remove, [6, 0], (598, 73, 596, 597)) := rfl
theorem zi_xD_removeAll : zz_inf 78 = some (yX2_removeAll, zM_xD_removeAll, [6, 9], (494, 73, 492, 493)) := rfl
theorem zi_xD_clear : zz_inf 79 = some (yX2_clear, zM_xD_clear, [6], (719, 73, 717, 718)) := rfl
theorem zi_xD_isAhead : zz_inf 80 = some (yX2_isAhead, zM_xD_isAhead, [6, 0, 0], (623, 73, 621, 622)) := rfl
theorem zi_xB_new : zz_inf 81 = some (yX0_init, zM_xB_new, [1005], (124, 74, 123, 0)) := rfl
theorem zi_xB_add : zz_inf 82 = some (yX0_add, zM_xB_add, [7, 0, 0, 0], (537, 74, 535, 536)) := rfl
theorem zi_xP_new : zz_inf 83 = some (yX4_init, zM_xP_new, [1006], (147, 75, 146, 0)) := rfl
theorem zi_xP_placeOf : zz_inf 84 = some (yX4_placeOf, zM_xP_placeOf, [8, 0, 0], (444, 75, 443, 4)) := rfl
theorem zi_xP_put : zz_inf 85 = some (yX4_put, zM_xP_put, [8, 0, 0, 0], (440, 75, 438, 439)) := rfl
theorem zi_xP_kindOf : zz_inf 86 = some (yX4_kindOf, zM_xP_kindOf, [8, 0, 0], (478, 75, 476, 477)) := rfl
theorem zi_xT_new : zz_inf 87 = some (yX6_init, zM_xT_new, [1007, 0, 0, 0, 0], (244, 77, 243, 0)) := rfl
theorem zi_xT_isActive : zz_inf 88 = some (yX6_isActive, zM_xT_isActive, [9], (486, 77, 484, 485)) := rfl
theorem zi_xT_fireFor : zz_inf 89 = some (yX6_fireFor, zM_xT_fireFor, [9, 0], (498, 77, 496, 497)) := rfl
theorem zi_xT_isFiredFor : zz_inf 90 = some (yX6_isFiredFor, zM_xT_isFiredFor, [9, 0], (582, 77, 580, 581)) := rfl
theorem zi_xT_step : zz_inf 91 = some (yX6_step, zM_xT_step, [9], (553, 77, 551, 552)) := rfl
theorem zi_xT_firstOfRate : zz_inf 92 = some (yX6_firstOfRate, zM_xT_firstOfRate, [9, 0], (747, 77, 745, 746)) := rfl
theorem zi_xC_new : zz_inf 93 = some (yX1_init, zM_xC_new, [1008], (250, 78, 249, 0)) := rfl
theorem zi_xC_isForm : zz_inf 94 = some (yX1_isForm, zM_xC_isForm, [0, 0, 0], (402, 78, 401, 0)) := rfl
theorem zi_xC_add : zz_inf 95 = some (yX1_add, zM_xC_add, [10, 0, 0, 0], (409, 78, 407, 408)) := rfl
theorem zi_xC_ring : zz_inf 96 = some (yX1_ring, zM_xC_ring, [0, 0, 0], (412, 78, 411, 0)) := rfl
theorem zi_xC_fits : zz_inf 97 = some (yX1_fits, zM_xC_fits, [10, 0], (561, 78, 559, 560)) := rfl
theorem zi_xC_minuteFits : zz_inf 98 = some (yX1_minuteFits, zM_xC_minuteFits, [10, 0], (565, 78, 564, 19)) := rfl
theorem zi_xC_hourFits : zz_inf 99 = some (yX1_hourFits, zM_xC_hourFits, [10, 0], (569, 78, 568, 20)) := rfl
theorem zi_xC_dayFits : zz_inf 100 = some (yX1_dayFits, zM_xC_dayFits, [10, 0], (573, 78, 572, 21)) := rfl
theorem zi_xC_firstFit : zz_inf 101 = some (yX1_firstFit, zM_xC_firstFit, [10, 0, 0], (693, 78, 691, 692)) := rfl
theorem zi_xC_monthOf : zz_inf 102 = some (yX1_monthOf, zM_xC_monthOf, [0], (576, 78, 575, 0)) := rfl
theorem zi_xN_new : zz_inf 103 = some (yX3_init, zM_xN_new, [1009], (283, 79, 282, 0)) := rfl
theorem zi_xN_add : zz_inf 104 = some (yX3_add, zM_xN_add, [11, 0, 0], (432, 79, 430, 431)) := rfl
theorem zi_xN_fit : zz_inf 105 = some (yX3_fit, zM_xN_fit, [11, 0, 0], (521, 79, 519, 520)) := rfl
theorem zi_xR_new : zz_inf 106 = some (yX5_init, zM_xR_new, [1010, 0, 9, 0, 0, 0], (631, 81, 630, 0)) := rfl
theorem zi_m_new : zz_inf 107 = some (yX8_init, zM_m_new, [1040], (792, 76, 791, 0)) := rfl
theorem zi_m_in : zz_inf 108 = some (yX8_in, zM_m_in, [0, 0, 0], (1023, 76, 1022, 0)) := rfl
theorem zi_m_isTask : zz_inf 109 = some (yX8_isTask, zM_m_isTask, [42, 0], (1020, 76, 1019, 43)) := rfl
theorem zi_m_isActive : zz_inf 110 = some (yX8_isActive, zM_m_isActive, [42, 0], (1027, 76, 1026, 44)) := rfl
theorem zi_m_atWork : zz_inf 111 = some (yX8_atWork, zM_m_atWork, [42], (1102, 76, 1101, 62)) := rfl
theorem zi_m_isRunning : zz_inf 112 = some (yX8_isRunning, zM_m_isRunning, [42, 0], (1063, 76, 1062, 53)) := rfl
theorem zi_m_loadOf : zz_inf 113 = some (yX8_loadOf, zM_m_loadOf, [42, 0], (1110, 76, 1109, 64)) := rfl
theorem zi_m_duesOf : zz_inf 114 = some (yX8_duesOf, zM_m_duesOf, [42, 0], (1094, 76, 1093, 60)) := rfl
theorem zi_m_monthLength : zz_inf 115 = some (yX8_monthLength, zM_m_monthLength, [0], (1082, 76, 1081, 0)) := rfl
theorem zi_m_look : zz_inf 116 = some (yX8_look, zM_m_look, [42, 0], (1079, 76, 1078, 57)) := rfl
theorem zi_m_fitsDay : zz_inf 117 = some (yX8_fitsDay, zM_m_fitsDay, [42, 0], (1086, 76, 1085, 58)) := rfl
theorem zi_m_fitsMinute : zz_inf 118 = some (yX8_fitsMinute, zM_m_fitsMinute, [42, 0, 0], (1075, 76, 1074, 56)) := rfl
theorem zi_m_fits : zz_inf 119 = some (yX8_fits, zM_m_fits, [42, 0, 0], (1071, 76, 1070, 55)) := rfl
theorem zi_m_hasMinute : zz_inf 120 = some (yX8_hasMinute, zM_m_hasMinute, [42, 0], (1202, 76, 1201, 70)) := rfl
theorem zi_m_dueFrom : zz_inf 121 = some (yX8_dueFrom, zM_m_dueFrom, [42, 0, 0], (1194, 76, 1193, 68)) := rfl
theorem zi_m_calendarFrom : zz_inf 122 = some (yX8_calendarFrom, zM_m_calendarFrom, [42, 0, 0], (1198, 76, 1197, 69)) := rfl
theorem zi_m_books : zz_inf 123 = some (yX8_books, zM_m_books, [42, 0, 0, 0], (1055, 76, 1054, 51)) := rfl
theorem zi_m_dueGone : zz_inf 124 = some (yX8_dueGone, zM_m_dueGone, [42, 0, 0], (1059, 76, 1058, 52)) := rfl
theorem zi_m_comes : zz_inf 125 = some (yX8_comes, zM_m_comes, [42, 0, 0], (1051, 76, 1050, 50)) := rfl
theorem zi_m_takeDue : zz_inf 126 = some (yX8_takeDue, zM_m_takeDue, [42, 0], (1035, 76, 1034, 46)) := rfl
theorem zi_m_dropDues : zz_inf 127 = some (yX8_dropDues, zM_m_dropDues, [42, 0], (1031, 76, 1030, 45)) := rfl
theorem zi_m_notes : zz_inf 128 = some (yX8_notes, zM_m_notes, [42, 0, 0, 0], (1047, 76, 1046, 49)) := rfl
theorem zi_m_frees : zz_inf 129 = some (yX8_frees, zM_m_frees, [42, 0, 0, 0], (1039, 76, 1038, 47)) := rfl
theorem zi_m_interrupts : zz_inf 130 = some (yX8_interrupts, zM_m_interrupts, [42, 0, 0], (1170, 76, 1169, 67)) := rfl
theorem zi_m_planned : zz_inf 131 = some (yX8_planned, zM_m_planned, [42, 0, 0], (1012, 76, 1011, 41)) := rfl
theorem zi_m_does : zz_inf 132 = some (yX8_does, zM_m_does, [42, 0, 0, 0], (1016, 76, 1015, 42)) := rfl
theorem zi_m_ends : zz_inf 133 = some (yX8_ends, zM_m_ends, [42, 0, 0], (1008, 76, 1007, 40)) := rfl
theorem zi_m_failed : zz_inf 134 = some (yX8_failed, zM_m_failed, [42, 0, 0], (1043, 76, 1042, 48)) := rfl
theorem zi_m_treat : zz_inf 135 = some (yX8_treat, zM_m_treat, [42, 0], (1004, 76, 1003, 39)) := rfl
theorem zi_m_isDue : zz_inf 136 = some (yX8_isDue, zM_m_isDue, [42, 0, 0], (1067, 76, 1066, 54)) := rfl
theorem zi_m_misses : zz_inf 137 = some (yX8_misses, zM_m_misses, [42, 0], (1090, 76, 1089, 59)) := rfl
theorem zi_m_canBegin : zz_inf 138 = some (yX8_canBegin, zM_m_canBegin, [42, 0], (1106, 76, 1105, 63)) := rfl
theorem zi_m_begins : zz_inf 139 = some (yX8_begins, zM_m_begins, [42, 0], (1098, 76, 1097, 61)) := rfl
theorem zi_m_isAhead : zz_inf 140 = some (yX8_isAhead, zM_m_isAhead, [42, 0, 0], (1114, 76, 1113, 65)) := rfl
theorem zi_m_clock : zz_inf 141 = some (yX8_clock, zM_m_clock, [42, 0], (999, 76, 997, 998)) := rfl
theorem zi_m_workers : zz_inf 142 = some (yX8_workers, zM_m_workers, [42, 0], (1118, 76, 1116, 1117)) := rfl
theorem zi_m_group : zz_inf 143 = some (yX8_group, zM_m_group, [42, 0], (1122, 76, 1120, 1121)) := rfl
theorem zi_m_task : zz_inf 144 = some (yX8_task, zM_m_task, [42, 0, 0, 0], (1126, 76, 1124, 1125)) := rfl
theorem zi_m_set : zz_inf 145 = some (yX8_set, zM_m_set, [42, 0, 0, 0], (1131, 76, 1129, 1130)) := rfl
theorem zi_m_isForm : zz_inf 146 = some (yX8_isForm, zM_m_isForm, [0, 0, 0], (1138, 76, 1137, 0)) := rfl
theorem zi_m_calendar : zz_inf 147 = some (yX8_calendar, zM_m_calendar, [42, 0, 0, 0, 0], (1135, 76, 1133, 1134)) := rfl
theorem zi_m_body : zz_inf 148 = some (yX8_body, zM_m_body, [42, 0, 0, 0, 0], (1142, 76, 1140, 1141)) := rfl
theorem zi_m_leads : zz_inf 149 = some (yX8_leads, zM_m_leads, [42, 0, 0], (1150, 76, 1149, 66)) := rfl
theorem zi_m_after : zz_inf 150 = some (yX8_after, zM_m_after, [42, 0, 0, 0], (1146, 76, 1144, 1145)) := rfl
theorem zi_m_plan : zz_inf 151 = some (yX8_plan, zM_m_plan, [42, 0, 0, 0], (1154, 76, 1152, 1153)) := rfl
theorem zi_m_clearPlan : zz_inf 152 = some (yX8_clearPlan, zM_m_clearPlan, [42], (1158, 76, 1156, 1157)) := rfl
theorem zi_m_jump : zz_inf 153 = some (yX8_jump, zM_m_jump, [42, 0], (1162, 76, 1160, 1161)) := rfl
theorem zi_m_cancel : zz_inf 154 = some (yX8_cancel, zM_m_cancel, [42, 0, 0], (1166, 76, 1164, 1165)) := rfl
theorem zi_m_stop : zz_inf 155 = some (yX8_stop, zM_m_stop, [42, 0], (1174, 76, 1172, 1173)) := rfl
theorem zi_m_go : zz_inf 156 = some (yX8_go, zM_m_go, [42], (1178, 76, 1176, 1177)) := rfl
theorem zi_m_run : zz_inf 157 = some (yX8_run, zM_m_run, [42, 0, 0], (1182, 76, 1180, 1181)) := rfl
theorem zi_m_of : zz_inf 158 = some (yX8_of, zM_m_of, [42, 0, 0], (1186, 76, 1184, 1185)) := rfl
theorem zi_m_next : zz_inf 159 = some (yX8_next, zM_m_next, [42, 0, 0], (1190, 76, 1188, 1189)) := rfl
theorem zi_m_waiting : zz_inf 160 = some (yX8_waiting, zM_m_waiting, [42, 0, 0], (1206, 76, 1204, 1205)) := rfl
theorem zi_m_book : zz_inf 161 = some (yX8_book, zM_m_book, [42, 0, 0], (1210, 76, 1208, 1209)) := rfl
theorem zi_m_count : zz_inf 162 = some (yX8_count, zM_m_count, [42, 0], (1214, 76, 1212, 1213)) := rfl
theorem zi_m_cell : zz_inf 163 = some (yX8_cell, zM_m_cell, [42, 0], (1218, 76, 1216, 1217)) := rfl
theorem zi_m_day : zz_inf 164 = some (yX8_day, zM_m_day, [42, 0, 0], (1222, 76, 1220, 1221)) := rfl
theorem zi_m_idle : zz_inf 165 = some (yX8_idle, zM_m_idle, [42, 0], (1227, 76, 1225, 1226)) := rfl
theorem zi_m_load : zz_inf 166 = some (yX8_load, zM_m_load, [42, 0], (1231, 76, 1229, 1230)) := rfl
theorem zi_m_quiet : zz_inf 167 = some (yX8_quiet, zM_m_quiet, [42], (1235, 76, 1233, 1234)) := rfl
theorem zi_j_max : zz_inf 168 = some (jy_max, zM_j_max, [0, 0], (447, 80, 446, 0)) := rfl
theorem zi_j_min : zz_inf 169 = some (jy_min, zM_j_min, [0, 0], (458, 80, 457, 0)) := rfl
theorem zi_j_floorMod : zz_inf 170 = some (jy_floorMod, zM_j_floorMod, [0, 0], (557, 80, 556, 0)) := rfl
theorem zy_x_new : zz_mk yX7_init zM_x_new [1003] = true := by decide +kernel
theorem zy_x_workers : zz_mk yX7_workers zM_x_workers [5, 0] = true := by decide +kernel
theorem zy_x_group : zz_mk yX7_group zM_x_group [5, 0] = true := by decide +kernel
theorem zy_x_task : zz_mk yX7_task zM_x_task [5, 0, 0, 0] = true := by decide +kernel
theorem zy_x_set : zz_mk yX7_set zM_x_set [5, 0, 0, 0] = true := by decide +kernel
theorem zy_x_leastTold : zz_mk yX7_leastTold zM_x_leastTold [0] = true := by decide +kernel
theorem zy_x_mostTold : zz_mk yX7_mostTold zM_x_mostTold [5, 0] = true := by decide +kernel
theorem zy_x_calendar : zz_mk yX7_calendar zM_x_calendar [5, 0, 0, 0, 0] = true := by decide +kernel
theorem zy_x_body : zz_mk yX7_body zM_x_body [5, 0, 0, 0, 0] = true := by decide +kernel
theorem zy_x_after : zz_mk yX7_after zM_x_after [5, 0, 0, 0] = true := by decide +kernel
theorem zy_x_comesAfter : zz_mk yX7_comesAfter zM_x_comesAfter [5, 0, 0] = true := by decide +kernel
theorem zy_x_link : zz_mk yX7_link zM_x_link [5, 0, 0] = true := by decide +kernel
theorem zy_x_plan : zz_mk yX7_plan zM_x_plan [5, 0, 0, 0] = true := by decide +kernel
theorem zy_x_clearPlan : zz_mk yX7_clearPlan zM_x_clearPlan [5] = true := by decide +kernel
theorem zy_x_clock : zz_mk yX7_clock zM_x_clock [5, 0] = true := by decide +kernel
theorem zy_x_treatMinute : zz_mk yX7_treatMinute zM_x_treatMinute [5] = true := by decide +kernel
theorem zy_x_endRuns : zz_mk yX7_endRuns zM_x_endRuns [5] = true := by decide +kernel
theorem zy_x_firstEnding : zz_mk yX7_firstEnding zM_x_firstEnding [5] = true := by decide +kernel
theorem zy_x_endRun : zz_mk yX7_endRun zM_x_endRun [5, 12] = true := by decide +kernel
theorem zy_x_act : zz_mk yX7_act zM_x_act [5, 12] = true := by decide +kernel
theorem zy_x_followEnd : zz_mk yX7_followEnd zM_x_followEnd [5, 9, 0] = true := by decide +kernel
theorem zy_x_restAfter : zz_mk yX7_restAfter zM_x_restAfter [0] = true := by decide +kernel
theorem zy_x_layDown : zz_mk yX7_layDown zM_x_layDown [5, 12, 0] = true := by decide +kernel
theorem zy_x_tellAfters : zz_mk yX7_tellAfters zM_x_tellAfters [5, 9, 0] = true := by decide +kernel
theorem zy_x_bringDues : zz_mk yX7_bringDues zM_x_bringDues [5] = true := by decide +kernel
theorem zy_x_isDueByKind : zz_mk yX7_isDueByKind zM_x_isDueByKind [5, 9, 0] = true := by decide +kernel
theorem zy_x_comeDue : zz_mk yX7_comeDue zM_x_comeDue [5, 9] = true := by decide +kernel
theorem zy_x_fateOfDue : zz_mk yX7_fateOfDue zM_x_fateOfDue [5, 9] = true := by decide +kernel
theorem zy_x_pauseAgain : zz_mk yX7_pauseAgain zM_x_pauseAgain [5, 9] = true := by decide +kernel
theorem zy_x_missDues : zz_mk yX7_missDues zM_x_missDues [5] = true := by decide +kernel
theorem zy_x_isMissed : zz_mk yX7_isMissed zM_x_isMissed [5, 9, 0] = true := by decide +kernel
theorem zy_x_missDue : zz_mk yX7_missDue zM_x_missDue [5, 9, 0] = true := by decide +kernel
theorem zy_x_beginRuns : zz_mk yX7_beginRuns zM_x_beginRuns [5] = true := by decide +kernel
theorem zy_x_freeWorker : zz_mk yX7_freeWorker zM_x_freeWorker [5] = true := by decide +kernel
theorem zy_x_firstToBegin : zz_mk yX7_firstToBegin zM_x_firstToBegin [5] = true := by decide +kernel
theorem zy_x_mayBegin : zz_mk yX7_mayBegin zM_x_mayBegin [5, 9] = true := by decide +kernel
theorem zy_x_workIn : zz_mk yX7_workIn zM_x_workIn [5, 0] = true := by decide +kernel
theorem zy_x_beginRun : zz_mk yX7_beginRun zM_x_beginRun [5, 0, 0] = true := by decide +kernel
theorem zy_x_jump : zz_mk yX7_jump zM_x_jump [5, 0] = true := by decide +kernel
theorem zy_x_jumpOver : zz_mk yX7_jumpOver zM_x_jumpOver [5, 0, 0] = true := by decide +kernel
theorem zy_x_missJumped : zz_mk yX7_missJumped zM_x_missJumped [5, 9, 0, 0] = true := by decide +kernel
theorem zy_x_cancel : zz_mk yX7_cancel zM_x_cancel [5, 0, 0] = true := by decide +kernel
theorem zy_x_leave : zz_mk yX7_leave zM_x_leave [5, 9, 0] = true := by decide +kernel
theorem zy_x_interruptRuns : zz_mk yX7_interruptRuns zM_x_interruptRuns [5, 9] = true := by decide +kernel
theorem zy_x_firstAtWork : zz_mk yX7_firstAtWork zM_x_firstAtWork [5, 9] = true := by decide +kernel
theorem zy_x_stop : zz_mk yX7_stop zM_x_stop [5, 0] = true := by decide +kernel
theorem zy_x_dropDues : zz_mk yX7_dropDues zM_x_dropDues [5] = true := by decide +kernel
theorem zy_x_go : zz_mk yX7_go zM_x_go [5] = true := by decide +kernel
theorem zy_x_run : zz_mk yX7_run zM_x_run [5, 0, 0] = true := by decide +kernel
theorem zy_x_of : zz_mk yX7_of zM_x_of [5, 0, 0] = true := by decide +kernel
theorem zy_x_stateOf : zz_mk yX7_stateOf zM_x_stateOf [5, 9] = true := by decide +kernel
theorem zy_x_next : zz_mk yX7_next zM_x_next [5, 0, 0] = true := by decide +kernel
theorem zy_x_dueMinute : zz_mk yX7_dueMinute zM_x_dueMinute [5, 9, 0] = true := by decide +kernel
theorem zy_x_calendarMinute : zz_mk yX7_calendarMinute zM_x_calendarMinute [5, 10, 0] = true := by decide +kernel
theorem zy_x_waiting : zz_mk yX7_waiting zM_x_waiting [5, 0, 0] = true := by decide +kernel
theorem zy_x_book : zz_mk yX7_book zM_x_book [5, 0, 0] = true := by decide +kernel
theorem zy_x_count : zz_mk yX7_count zM_x_count [5, 0] = true := by decide +kernel
theorem zy_x_cell : zz_mk yX7_cell zM_x_cell [5, 0] = true := by decide +kernel
theorem zy_x_day : zz_mk yX7_day zM_x_day [5, 0, 0] = true := by decide +kernel
theorem zy_x_idle : zz_mk yX7_idle zM_x_idle [5, 0] = true := by decide +kernel
theorem zy_x_load : zz_mk yX7_load zM_x_load [5, 0] = true := by decide +kernel
theorem zy_x_quiet : zz_mk yX7_quiet zM_x_quiet [5] = true := by decide +kernel
theorem zy_x_isWithin : zz_mk yX7_isWithin zM_x_isWithin [0, 0, 0] = true := by decide +kernel
theorem zy_x_taskAt : zz_mk yX7_taskAt zM_x_taskAt [5, 0] = true := by decide +kernel
theorem zy_x_isActive : zz_mk yX7_isActive zM_x_isActive [9] = true := by decide +kernel
theorem zy_xD_new : zz_mk yX2_init zM_xD_new [1004] = true := by decide +kernel
theorem zy_xD_add : zz_mk yX2_add zM_xD_add [6, 9, 0] = true := by decide +kernel
theorem zy_xD_remove : zz_mk yX2_remove zM_xD_remove [6, 0] = true := by decide +kernel
theorem zy_xD_removeAll : zz_mk yX2_removeAll zM_xD_removeAll [6, 9] = true := by decide +kernel
theorem zy_xD_clear : zz_mk yX2_clear zM_xD_clear [6] = true := by decide +kernel
theorem zy_xD_isAhead : zz_mk yX2_isAhead zM_xD_isAhead [6, 0, 0] = true := by decide +kernel
theorem zy_xB_new : zz_mk yX0_init zM_xB_new [1005] = true := by decide +kernel
theorem zy_xB_add : zz_mk yX0_add zM_xB_add [7, 0, 0, 0] = true := by decide +kernel
theorem zy_xP_new : zz_mk yX4_init zM_xP_new [1006] = true := by decide +kernel
theorem zy_xP_placeOf : zz_mk yX4_placeOf zM_xP_placeOf [8, 0, 0] = true := by decide +kernel
theorem zy_xP_put : zz_mk yX4_put zM_xP_put [8, 0, 0, 0] = true := by decide +kernel
theorem zy_xP_kindOf : zz_mk yX4_kindOf zM_xP_kindOf [8, 0, 0] = true := by decide +kernel
theorem zy_xT_new : zz_mk yX6_init zM_xT_new [1007, 0, 0, 0, 0] = true := by decide +kernel
theorem zy_xT_isActive : zz_mk yX6_isActive zM_xT_isActive [9] = true := by decide +kernel
theorem zy_xT_fireFor : zz_mk yX6_fireFor zM_xT_fireFor [9, 0] = true := by decide +kernel
theorem zy_xT_isFiredFor : zz_mk yX6_isFiredFor zM_xT_isFiredFor [9, 0] = true := by decide +kernel
theorem zy_xT_step : zz_mk yX6_step zM_xT_step [9] = true := by decide +kernel
theorem zy_xT_firstOfRate : zz_mk yX6_firstOfRate zM_xT_firstOfRate [9, 0] = true := by decide +kernel
theorem zy_xC_new : zz_mk yX1_init zM_xC_new [1008] = true := by decide +kernel
theorem zy_xC_isForm : zz_mk yX1_isForm zM_xC_isForm [0, 0, 0] = true := by decide +kernel
theorem zy_xC_add : zz_mk yX1_add zM_xC_add [10, 0, 0, 0] = true := by decide +kernel
theorem zy_xC_ring : zz_mk yX1_ring zM_xC_ring [0, 0, 0] = true := by decide +kernel
theorem zy_xC_fits : zz_mk yX1_fits zM_xC_fits [10, 0] = true := by decide +kernel
theorem zy_xC_minuteFits : zz_mk yX1_minuteFits zM_xC_minuteFits [10, 0] = true := by decide +kernel
theorem zy_xC_hourFits : zz_mk yX1_hourFits zM_xC_hourFits [10, 0] = true := by decide +kernel
theorem zy_xC_dayFits : zz_mk yX1_dayFits zM_xC_dayFits [10, 0] = true := by decide +kernel
theorem zy_xC_firstFit : zz_mk yX1_firstFit zM_xC_firstFit [10, 0, 0] = true := by decide +kernel
theorem zy_xC_monthOf : zz_mk yX1_monthOf zM_xC_monthOf [0] = true := by decide +kernel
theorem zy_xN_new : zz_mk yX3_init zM_xN_new [1009] = true := by decide +kernel
theorem zy_xN_add : zz_mk yX3_add zM_xN_add [11, 0, 0] = true := by decide +kernel
theorem zy_xN_fit : zz_mk yX3_fit zM_xN_fit [11, 0, 0] = true := by decide +kernel
theorem zy_xR_new : zz_mk yX5_init zM_xR_new [1010, 0, 9, 0, 0, 0] = true := by decide +kernel
theorem zy_m_new : zz_mk yX8_init zM_m_new [1040] = true := by decide +kernel
theorem zy_m_in : zz_mk yX8_in zM_m_in [0, 0, 0] = true := by decide +kernel
theorem zy_m_isTask : zz_mk yX8_isTask zM_m_isTask [42, 0] = true := by decide +kernel
theorem zy_m_isActive : zz_mk yX8_isActive zM_m_isActive [42, 0] = true := by decide +kernel
theorem zy_m_atWork : zz_mk yX8_atWork zM_m_atWork [42] = true := by decide +kernel
theorem zy_m_isRunning : zz_mk yX8_isRunning zM_m_isRunning [42, 0] = true := by decide +kernel
theorem zy_m_loadOf : zz_mk yX8_loadOf zM_m_loadOf [42, 0] = true := by decide +kernel
theorem zy_m_duesOf : zz_mk yX8_duesOf zM_m_duesOf [42, 0] = true := by decide +kernel
theorem zy_m_monthLength : zz_mk yX8_monthLength zM_m_monthLength [0] = true := by decide +kernel
theorem zy_m_look : zz_mk yX8_look zM_m_look [42, 0] = true := by decide +kernel
theorem zy_m_fitsDay : zz_mk yX8_fitsDay zM_m_fitsDay [42, 0] = true := by decide +kernel
theorem zy_m_fitsMinute : zz_mk yX8_fitsMinute zM_m_fitsMinute [42, 0, 0] = true := by decide +kernel
theorem zy_m_fits : zz_mk yX8_fits zM_m_fits [42, 0, 0] = true := by decide +kernel
theorem zy_m_hasMinute : zz_mk yX8_hasMinute zM_m_hasMinute [42, 0] = true := by decide +kernel
theorem zy_m_dueFrom : zz_mk yX8_dueFrom zM_m_dueFrom [42, 0, 0] = true := by decide +kernel
theorem zy_m_calendarFrom : zz_mk yX8_calendarFrom zM_m_calendarFrom [42, 0, 0] = true := by decide +kernel
theorem zy_m_books : zz_mk yX8_books zM_m_books [42, 0, 0, 0] = true := by decide +kernel
theorem zy_m_dueGone : zz_mk yX8_dueGone zM_m_dueGone [42, 0, 0] = true := by decide +kernel
theorem zy_m_comes : zz_mk yX8_comes zM_m_comes [42, 0, 0] = true := by decide +kernel
theorem zy_m_takeDue : zz_mk yX8_takeDue zM_m_takeDue [42, 0] = true := by decide +kernel
theorem zy_m_dropDues : zz_mk yX8_dropDues zM_m_dropDues [42, 0] = true := by decide +kernel
theorem zy_m_notes : zz_mk yX8_notes zM_m_notes [42, 0, 0, 0] = true := by decide +kernel
theorem zy_m_frees : zz_mk yX8_frees zM_m_frees [42, 0, 0, 0] = true := by decide +kernel
theorem zy_m_interrupts : zz_mk yX8_interrupts zM_m_interrupts [42, 0, 0] = true := by decide +kernel
theorem zy_m_planned : zz_mk yX8_planned zM_m_planned [42, 0, 0] = true := by decide +kernel
theorem zy_m_does : zz_mk yX8_does zM_m_does [42, 0, 0, 0] = true := by decide +kernel
theorem zy_m_ends : zz_mk yX8_ends zM_m_ends [42, 0, 0] = true := by decide +kernel
theorem zy_m_failed : zz_mk yX8_failed zM_m_failed [42, 0, 0] = true := by decide +kernel
theorem zy_m_treat : zz_mk yX8_treat zM_m_treat [42, 0] = true := by decide +kernel
theorem zy_m_isDue : zz_mk yX8_isDue zM_m_isDue [42, 0, 0] = true := by decide +kernel
theorem zy_m_misses : zz_mk yX8_misses zM_m_misses [42, 0] = true := by decide +kernel
theorem zy_m_canBegin : zz_mk yX8_canBegin zM_m_canBegin [42, 0] = true := by decide +kernel
theorem zy_m_begins : zz_mk yX8_begins zM_m_begins [42, 0] = true := by decide +kernel
theorem zy_m_isAhead : zz_mk yX8_isAhead zM_m_isAhead [42, 0, 0] = true := by decide +kernel
theorem zy_m_clock : zz_mk yX8_clock zM_m_clock [42, 0] = true := by decide +kernel
theorem zy_m_workers : zz_mk yX8_workers zM_m_workers [42, 0] = true := by decide +kernel
theorem zy_m_group : zz_mk yX8_group zM_m_group [42, 0] = true := by decide +kernel
theorem zy_m_task : zz_mk yX8_task zM_m_task [42, 0, 0, 0] = true := by decide +kernel
theorem zy_m_set : zz_mk yX8_set zM_m_set [42, 0, 0, 0] = true := by decide +kernel
theorem zy_m_isForm : zz_mk yX8_isForm zM_m_isForm [0, 0, 0] = true := by decide +kernel
theorem zy_m_calendar : zz_mk yX8_calendar zM_m_calendar [42, 0, 0, 0, 0] = true := by decide +kernel
theorem zy_m_body : zz_mk yX8_body zM_m_body [42, 0, 0, 0, 0] = true := by decide +kernel
theorem zy_m_leads : zz_mk yX8_leads zM_m_leads [42, 0, 0] = true := by decide +kernel
theorem zy_m_after : zz_mk yX8_after zM_m_after [42, 0, 0, 0] = true := by decide +kernel
theorem zy_m_plan : zz_mk yX8_plan zM_m_plan [42, 0, 0, 0] = true := by decide +kernel
theorem zy_m_clearPlan : zz_mk yX8_clearPlan zM_m_clearPlan [42] = true := by decide +kernel
theorem zy_m_jump : zz_mk yX8_jump zM_m_jump [42, 0] = true := by decide +kernel
theorem zy_m_cancel : zz_mk yX8_cancel zM_m_cancel [42, 0, 0] = true := by decide +kernel
theorem zy_m_stop : zz_mk yX8_stop zM_m_stop [42, 0] = true := by decide +kernel
theorem zy_m_go : zz_mk yX8_go zM_m_go [42] = true := by decide +kernel
theorem zy_m_run : zz_mk yX8_run zM_m_run [42, 0, 0] = true := by decide +kernel
theorem zy_m_of : zz_mk yX8_of zM_m_of [42, 0, 0] = true := by decide +kernel
theorem zy_m_next : zz_mk yX8_next zM_m_next [42, 0, 0] = true := by decide +kernel
theorem zy_m_waiting : zz_mk yX8_waiting zM_m_waiting [42, 0, 0] = true := by decide +kernel
theorem zy_m_book : zz_mk yX8_book zM_m_book [42, 0, 0] = true := by decide +kernel
theorem zy_m_count : zz_mk yX8_count zM_m_count [42, 0] = true := by decide +kernel
theorem zy_m_cell : zz_mk yX8_cell zM_m_cell [42, 0] = true := by decide +kernel
theorem zy_m_day : zz_mk yX8_day zM_m_day [42, 0, 0] = true := by decide +kernel
theorem zy_m_idle : zz_mk yX8_idle zM_m_idle [42, 0] = true := by decide +kernel
theorem zy_m_load : zz_mk yX8_load zM_m_load [42, 0] = true := by decide +kernel
theorem zy_m_quiet : zz_mk yX8_quiet zM_m_quiet [42] = true := by decide +kernel
theorem zy_j_max : zz_mk jy_max zM_j_max [0, 0] = true := by decide +kernel
theorem zy_j_min : zz_mk jy_min zM_j_min [0, 0] = true := by decide +kernel
theorem zy_j_floorMod : zz_mk jy_floorMod zM_j_floorMod [0, 0] = true := by decide +kernel
